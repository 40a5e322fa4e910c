def RX0 : String := "PointedBench$County"
def TX0 : u_T := fun k => match k with
  | 0 => ("PointedBench$County", "men", "I", false)
  | 1 => ("PointedBench$County", "children", "I", false)
  | 2 => ("PointedBench$County", "kindness", "[I", true)
  | 3 => ("PointedBench$County", "traits", "[I", true)
  | 4 => ("PointedBench$County", "age", "[I", true)
  | 5 => ("PointedBench$County", "term", "[I", true)
  | 6 => ("PointedBench$County", "fears", "[I", true)
  | _ => ("PointedBench$County", "likes", "[I", true)
def tyX0 : Nat → FieldType := fun k => match k with
  | 0 => .int
  | 1 => .int
  | 2 => .array .int
  | 3 => .array .int
  | 4 => .array .int
  | 5 => .array .int
  | 6 => .array .int
  | _ => .array .int
abbrev wsX00 : List Cond := u_ws RX0 TX0 8
theorem nmX0 : ∀ a, a < 8 → ∀ b, b < 8 → a ≠ b → (TX0 a).2.1 ≠ (TX0 b).2.1 := by decide +kernel
theorem tyX0_ok : ∀ k, k < 8 → parseFieldDescriptor (TX0 k).2.2.1 = some (tyX0 k) := by decide +kernel
def RX1 : String := "PointedBench$Course"
def TX1 : u_T := fun k => match k with
  | 0 => ("PointedBench$Course", "county", "LPointedBench$County;", true)
  | 1 => ("PointedBench$Course", "poll", "LPointedBench$Poll;", true)
  | 2 => ("PointedBench$Course", "times", "[I", true)
  | 3 => ("PointedBench$Course", "points", "[I", true)
  | 4 => ("PointedBench$Course", "year", "I", false)
  | 5 => ("PointedBench$Course", "gaoler", "I", false)
  | 6 => ("PointedBench$Course", "picks", "I", false)
  | 7 => ("PointedBench$Course", "outs", "I", false)
  | _ => ("PointedBench$Course", "seed", "I", false)
def tyX1 : Nat → FieldType := fun k => match k with
  | 0 => .object "PointedBench$County"
  | 1 => .object "PointedBench$Poll"
  | 2 => .array .int
  | 3 => .array .int
  | 4 => .int
  | 5 => .int
  | 6 => .int
  | 7 => .int
  | _ => .int
abbrev wsX10 : List Cond := u_ws RX1 TX1 9
theorem nmX1 : ∀ a, a < 9 → ∀ b, b < 9 → a ≠ b → (TX1 a).2.1 ≠ (TX1 b).2.1 := by decide +kernel
theorem tyX1_ok : ∀ k, k < 9 → parseFieldDescriptor (TX1 k).2.2.1 = some (tyX1 k) := by decide +kernel
def RX2 : String := "PointedBench$Duels"
def TX2 : u_T := fun k => match k with
  | 0 => ("PointedBench$Duels", "row", "[I", true)
  | 1 => ("PointedBench$Duels", "men", "I", false)
  | 2 => ("PointedBench$Duels", "wins", "[I", true)
  | _ => ("PointedBench$Duels", "regards", "[I", true)
def tyX2 : Nat → FieldType := fun k => match k with
  | 0 => .array .int
  | 1 => .int
  | 2 => .array .int
  | _ => .array .int
abbrev wsX20 : List Cond := u_ws RX2 TX2 4
theorem nmX2 : ∀ a, a < 4 → ∀ b, b < 4 → a ≠ b → (TX2 a).2.1 ≠ (TX2 b).2.1 := by decide +kernel
theorem tyX2_ok : ∀ k, k < 4 → parseFieldDescriptor (TX2 k).2.2.1 = some (tyX2 k) := by decide +kernel
def RX3 : String := "PointedBench$Likings"
def TX3 : u_T := fun k => match k with
  | 0 => ("PointedBench$Likings", "fitting", "I", false)
  | 1 => ("PointedBench$Likings", "fit", "[I", true)
  | 2 => ("PointedBench$Likings", "marks", "[I", true)
  | 3 => ("PointedBench$Likings", "levels", "[I", true)
  | _ => ("PointedBench$Likings", "more", "[I", true)
def tyX3 : Nat → FieldType := fun k => match k with
  | 0 => .int
  | 1 => .array .int
  | 2 => .array .int
  | 3 => .array .int
  | _ => .array .int
abbrev wsX30 : List Cond := u_ws RX3 TX3 5
theorem nmX3 : ∀ a, a < 5 → ∀ b, b < 5 → a ≠ b → (TX3 a).2.1 ≠ (TX3 b).2.1 := by decide +kernel
theorem tyX3_ok : ∀ k, k < 5 → parseFieldDescriptor (TX3 k).2.2.1 = some (tyX3 k) := by decide +kernel
def RX4 : String := "PointedBench$Lines"
def TX4 : u_T := fun k => match k with
  | 0 => ("PointedBench$Lines", "size", "I", false)
  | 1 => ("PointedBench$Lines", "kind", "[I", true)
  | 2 => ("PointedBench$Lines", "first", "[I", true)
  | 3 => ("PointedBench$Lines", "second", "[I", true)
  | 4 => ("PointedBench$Lines", "third", "[I", true)
  | _ => ("PointedBench$Lines", "numbers", "I", true)
def tyX4 : Nat → FieldType := fun k => match k with
  | 0 => .int
  | 1 => .array .int
  | 2 => .array .int
  | 3 => .array .int
  | 4 => .array .int
  | _ => .int
abbrev wsX40 : List Cond := u_ws RX4 TX4 6
theorem nmX4 : ∀ a, a < 6 → ∀ b, b < 6 → a ≠ b → (TX4 a).2.1 ≠ (TX4 b).2.1 := by decide +kernel
theorem tyX4_ok : ∀ k, k < 6 → parseFieldDescriptor (TX4 k).2.2.1 = some (tyX4 k) := by decide +kernel
def RX5 : String := "PointedBench$Poll"
def TX5 : u_T := fun k => match k with
  | 0 => ("PointedBench$Poll", "voters", "I", false)
  | 1 => ("PointedBench$Poll", "men", "I", false)
  | _ => ("PointedBench$Poll", "point", "[I", true)
def tyX5 : Nat → FieldType := fun k => match k with
  | 0 => .int
  | 1 => .int
  | _ => .array .int
abbrev wsX50 : List Cond := u_ws RX5 TX5 3
theorem nmX5 : ∀ a, a < 3 → ∀ b, b < 3 → a ≠ b → (TX5 a).2.1 ≠ (TX5 b).2.1 := by decide +kernel
theorem tyX5_ok : ∀ k, k < 3 → parseFieldDescriptor (TX5 k).2.2.1 = some (tyX5 k) := by decide +kernel
def RX6 : String := "PointedBench$Reader"
def TX6 : u_T := fun k => match k with
  | 0 => ("PointedBench$Reader", "county", "LPointedBench$County;", true)
  | 1 => ("PointedBench$Reader", "deeds", "LPointedBench$Lines;", true)
  | 2 => ("PointedBench$Reader", "facts", "LPointedBench$Lines;", true)
  | 3 => ("PointedBench$Reader", "fault", "I", false)
  | 4 => ("PointedBench$Reader", "place", "I", false)
  | 5 => ("PointedBench$Reader", "tape", "[B", false)
  | 6 => ("PointedBench$Reader", "length", "I", false)
  | 7 => ("PointedBench$Reader", "token", "I", false)
  | 8 => ("PointedBench$Reader", "from", "I", false)
  | 9 => ("PointedBench$Reader", "to", "I", false)
  | 10 => ("PointedBench$Reader", "men", "I", false)
  | 11 => ("PointedBench$Reader", "children", "I", false)
  | _ => ("PointedBench$Reader", "numbers", "[I", true)
def tyX6 : Nat → FieldType := fun k => match k with
  | 0 => .object "PointedBench$County"
  | 1 => .object "PointedBench$Lines"
  | 2 => .object "PointedBench$Lines"
  | 3 => .int
  | 4 => .int
  | 5 => .array .byte
  | 6 => .int
  | 7 => .int
  | 8 => .int
  | 9 => .int
  | 10 => .int
  | 11 => .int
  | _ => .array .int
abbrev wsX60 : List Cond := u_ws RX6 TX6 13
theorem nmX6 : ∀ a, a < 13 → ∀ b, b < 13 → a ≠ b → (TX6 a).2.1 ≠ (TX6 b).2.1 := by decide +kernel
theorem tyX6_ok : ∀ k, k < 13 → parseFieldDescriptor (TX6 k).2.2.1 = some (tyX6 k) := by decide +kernel
def RX7 : String := "PointedBench$Told"
def TX7 : u_T := fun k => match k with
  | 0 => ("PointedBench$Told", "counties", "[LPointedBench$County;", true)
  | 1 => ("PointedBench$Told", "years", "[LPointedBench$Lines;", true)
  | 2 => ("PointedBench$Told", "logs", "[LPointedBench$Lines;", true)
  | 3 => ("PointedBench$Told", "held", "[I", true)
  | 4 => ("PointedBench$Told", "tape", "[B", true)
  | 5 => ("PointedBench$Told", "length", "I", false)
  | 6 => ("PointedBench$Told", "fault", "I", false)
  | _ => ("PointedBench$Told", "place", "I", false)
def tyX7 : Nat → FieldType := fun k => match k with
  | 0 => .array (.object "PointedBench$County")
  | 1 => .array (.object "PointedBench$Lines")
  | 2 => .array (.object "PointedBench$Lines")
  | 3 => .array .int
  | 4 => .array .byte
  | 5 => .int
  | 6 => .int
  | _ => .int
abbrev wsX70 : List Cond := u_ws RX7 TX7 8
theorem nmX7 : ∀ a, a < 8 → ∀ b, b < 8 → a ≠ b → (TX7 a).2.1 ≠ (TX7 b).2.1 := by decide +kernel
theorem tyX7_ok : ∀ k, k < 8 → parseFieldDescriptor (TX7 k).2.2.1 = some (tyX7 k) := by decide +kernel
def RX8 : String := "PointedBench$Trial"
def TX8 : u_T := fun k => match k with
  | 0 => ("PointedBench$Trial", "county", "LPointedBench$County;", true)
  | 1 => ("PointedBench$Trial", "poll", "LPointedBench$Poll;", true)
  | 2 => ("PointedBench$Trial", "first", "I", false)
  | 3 => ("PointedBench$Trial", "second", "I", false)
  | _ => ("PointedBench$Trial", "turns", "I", false)
def tyX8 : Nat → FieldType := fun k => match k with
  | 0 => .object "PointedBench$County"
  | 1 => .object "PointedBench$Poll"
  | 2 => .int
  | 3 => .int
  | _ => .int
abbrev wsX80 : List Cond := u_ws RX8 TX8 5
theorem nmX8 : ∀ a, a < 5 → ∀ b, b < 5 → a ≠ b → (TX8 a).2.1 ≠ (TX8 b).2.1 := by decide +kernel
theorem tyX8_ok : ∀ k, k < 5 → parseFieldDescriptor (TX8 k).2.2.1 = some (tyX8 k) := by decide +kernel
def RX9 : String := "PointedBench$Wings"
def TX9 : u_T := fun k => match k with
  | _ => ("PointedBench$Wings", "wing", "[I", true)
def tyX9 : Nat → FieldType := fun k => match k with
  | _ => .array .int
abbrev wsX90 : List Cond := u_ws RX9 TX9 1
theorem nmX9 : ∀ a, a < 1 → ∀ b, b < 1 → a ≠ b → (TX9 a).2.1 ≠ (TX9 b).2.1 := by decide +kernel
theorem tyX9_ok : ∀ k, k < 1 → parseFieldDescriptor (TX9 k).2.2.1 = some (tyX9 k) := by decide +kernel
def RX10 : String := "PointedBench"
def TX10 : u_T := fun k => match k with
  | 0 => ("PointedBench", "now", "LPointedBench$Told;", true)
  | 1 => ("PointedBench", "images", "[LPointedBench$Told;", true)
  | 2 => ("PointedBench", "kept", "[Z", true)
  | 3 => ("PointedBench", "reader", "LPointedBench$Reader;", true)
  | 4 => ("PointedBench", "poll", "LPointedBench$Poll;", true)
  | 5 => ("PointedBench", "trial", "LPointedBench$Trial;", true)
  | 6 => ("PointedBench", "duels", "LPointedBench$Duels;", true)
  | 7 => ("PointedBench", "cells", "LPointedBench$Wings;", true)
  | 8 => ("PointedBench", "course", "LPointedBench$Course;", true)
  | _ => ("PointedBench", "likings", "LPointedBench$Likings;", true)
def tyX10 : Nat → FieldType := fun k => match k with
  | 0 => .object "PointedBench$Told"
  | 1 => .array (.object "PointedBench$Told")
  | 2 => .array .boolean
  | 3 => .object "PointedBench$Reader"
  | 4 => .object "PointedBench$Poll"
  | 5 => .object "PointedBench$Trial"
  | 6 => .object "PointedBench$Duels"
  | 7 => .object "PointedBench$Wings"
  | 8 => .object "PointedBench$Course"
  | _ => .object "PointedBench$Likings"
abbrev wsX100 : List Cond := u_ws RX10 TX10 10
theorem nmX10 : ∀ a, a < 10 → ∀ b, b < 10 → a ≠ b → (TX10 a).2.1 ≠ (TX10 b).2.1 := by decide +kernel
theorem tyX10_ok : ∀ k, k < 10 → parseFieldDescriptor (TX10 k).2.2.1 = some (tyX10 k) := by decide +kernel
def RX11 : String := "PointedBenchModel"
def TX11 : u_T := fun k => match k with
  | 0 => ("PointedBenchModel", "code", "I", false)
  | 1 => ("PointedBenchModel", "tape", "[B", true)
  | 2 => ("PointedBenchModel", "size", "[I", true)
  | 3 => ("PointedBenchModel", "fault", "[I", true)
  | 4 => ("PointedBenchModel", "faultPlace", "[I", true)
  | 5 => ("PointedBenchModel", "many", "[I", true)
  | 6 => ("PointedBenchModel", "counties", "[I", true)
  | 7 => ("PointedBenchModel", "years", "[I", true)
  | 8 => ("PointedBenchModel", "logs", "[I", true)
  | 9 => ("PointedBenchModel", "reached", "I", false)
  | 10 => ("PointedBenchModel", "length", "I", false)
  | 11 => ("PointedBenchModel", "begins", "I", false)
  | 12 => ("PointedBenchModel", "sort", "I", false)
  | 13 => ("PointedBenchModel", "value", "I", false)
  | 14 => ("PointedBenchModel", "word", "J", false)
  | 15 => ("PointedBenchModel", "wrongAt", "I", false)
  | 16 => ("PointedBenchModel", "laterFault", "I", false)
  | 17 => ("PointedBenchModel", "laterPlace", "I", false)
  | 18 => ("PointedBenchModel", "told", "[I", true)
  | 19 => ("PointedBenchModel", "read", "[I", true)
  | 20 => ("PointedBenchModel", "farMan", "I", false)
  | 21 => ("PointedBenchModel", "farChild", "I", false)
  | 22 => ("PointedBenchModel", "good", "Z", false)
  | 23 => ("PointedBenchModel", "county", "I", false)
  | 24 => ("PointedBenchModel", "men", "I", false)
  | 25 => ("PointedBenchModel", "children", "I", false)
  | 26 => ("PointedBenchModel", "when", "I", false)
  | 27 => ("PointedBenchModel", "gaoler", "I", false)
  | 28 => ("PointedBenchModel", "picks", "I", false)
  | 29 => ("PointedBenchModel", "outs", "I", false)
  | 30 => ("PointedBenchModel", "traits", "[I", true)
  | 31 => ("PointedBenchModel", "age", "[I", true)
  | 32 => ("PointedBenchModel", "term", "[I", true)
  | 33 => ("PointedBenchModel", "fear", "[I", true)
  | 34 => ("PointedBenchModel", "taste", "[I", true)
  | 35 => ("PointedBenchModel", "to", "[I", true)
  | 36 => ("PointedBenchModel", "year", "I", false)
  | 37 => ("PointedBenchModel", "ends", "[I", true)
  | 38 => ("PointedBenchModel", "which", "I", false)
  | 39 => ("PointedBenchModel", "log", "I", false)
  | 40 => ("PointedBenchModel", "fitting", "[I", true)
  | 41 => ("PointedBenchModel", "found", "I", false)
  | 42 => ("PointedBenchModel", "seed", "I", false)
  | 43 => ("PointedBenchModel", "row", "[I", true)
  | 44 => ("PointedBenchModel", "reigns", "[I", true)
  | 45 => ("PointedBenchModel", "turns", "[I", true)
  | 46 => ("PointedBenchModel", "was", "[I", true)
  | 47 => ("PointedBenchModel", "began", "I", false)
  | 48 => ("PointedBenchModel", "changes", "I", false)
  | 49 => ("PointedBenchModel", "shown", "I", false)
  | 50 => ("PointedBenchModel", "scared", "I", false)
  | _ => ("PointedBenchModel", "saved", "[Z", true)
def tyX11 : Nat → FieldType := fun k => match k with
  | 0 => .int
  | 1 => .array .byte
  | 2 => .array .int
  | 3 => .array .int
  | 4 => .array .int
  | 5 => .array .int
  | 6 => .array .int
  | 7 => .array .int
  | 8 => .array .int
  | 9 => .int
  | 10 => .int
  | 11 => .int
  | 12 => .int
  | 13 => .int
  | 14 => .long
  | 15 => .int
  | 16 => .int
  | 17 => .int
  | 18 => .array .int
  | 19 => .array .int
  | 20 => .int
  | 21 => .int
  | 22 => .boolean
  | 23 => .int
  | 24 => .int
  | 25 => .int
  | 26 => .int
  | 27 => .int
  | 28 => .int
  | 29 => .int
  | 30 => .array .int
  | 31 => .array .int
  | 32 => .array .int
  | 33 => .array .int
  | 34 => .array .int
  | 35 => .array .int
  | 36 => .int
  | 37 => .array .int
  | 38 => .int
  | 39 => .int
  | 40 => .array .int
  | 41 => .int
  | 42 => .int
  | 43 => .array .int
  | 44 => .array .int
  | 45 => .array .int
  | 46 => .array .int
  | 47 => .int
  | 48 => .int
  | 49 => .int
  | 50 => .int
  | _ => .array .boolean
abbrev wsX110 : List Cond := u_ws RX11 TX11 52
theorem nmX11 : ∀ a, a < 52 → ∀ b, b < 52 → a ≠ b → (TX11 a).2.1 ≠ (TX11 b).2.1 := by decide +kernel
theorem tyX11_ok : ∀ k, k < 52 → parseFieldDescriptor (TX11 k).2.2.1 = some (tyX11 k) := by decide +kernel
abbrev pb_cl : List vw_C := [(RX0, TX0, 8), (RX1, TX1, 9), (RX2, TX2, 4), (RX3, TX3, 5), (RX4, TX4, 6), (RX5, TX5, 3), (RX6, TX6, 13), (RX7, TX7, 8), (RX8, TX8, 5), (RX9, TX9, 1), (RX10, TX10, 10), (RX11, TX11, 52)]
def pb_FTY : List (List Nat) := [[0, 0, 2, 2, 2, 2, 2, 2], [2, 2, 2, 2, 0, 0, 0, 0, 0], [2, 0, 2, 2], [0, 2, 2, 2, 2], [0, 2, 2, 2, 2, 0], [0, 0, 2], [2, 2, 2, 0, 0, 2, 0, 0, 0, 0, 0, 0, 2], [2, 2, 2, 2, 2, 0, 0, 0], [2, 2, 0, 0, 0], [2], [2, 2, 2, 2, 2, 2, 2, 2, 2, 2], [0, 2, 2, 2, 2, 2, 2, 2, 2, 0, 0, 0, 0, 0, 1, 0, 0, 0, 2, 2, 0, 0, 3, 0, 0, 0, 0, 0, 0, 0, 2, 2, 2, 2, 2, 2, 0, 2, 0, 0, 2, 0, 0, 2, 2, 2, 2, 0, 0, 0, 0, 2]]
def pb_SHL : List (Nat × Nat) := [(10, 0), (7, 0), (15, 2), (0, 0), (12, 6), (12, 6), (12, 6), (12, 6), (12, 6), (12, 36), (0, 0), (12, 6), (12, 6), (12, 6), (12, 6), (12, 6), (12, 36), (16, 2), (4, 0), (12, 40), (12, 40), (12, 40), (12, 40), (4, 0), (12, 40), (12, 40), (12, 40), (12, 40), (16, 2), (4, 0), (12, 8), (12, 8), (12, 8), (12, 8), (4, 0), (12, 8), (12, 8), (12, 8), (12, 8), (12, 3), (13, 600), (17, 3), (7, 0), (15, 2), (0, 0), (12, 6), (12, 6), (12, 6), (12, 6), (12, 6), (12, 36), (0, 0), (12, 6), (12, 6), (12, 6), (12, 6), (12, 6), (12, 36), (16, 2), (4, 0), (12, 40), (12, 40), (12, 40), (12, 40), (4, 0), (12, 40), (12, 40), (12, 40), (12, 40), (16, 2), (4, 0), (12, 8), (12, 8), (12, 8), (12, 8), (4, 0), (12, 8), (12, 8), (12, 8), (12, 8), (12, 3), (13, 600), (7, 0), (15, 2), (0, 0), (12, 6), (12, 6), (12, 6), (12, 6), (12, 6), (12, 36), (0, 0), (12, 6), (12, 6), (12, 6), (12, 6), (12, 6), (12, 36), (16, 2), (4, 0), (12, 40), (12, 40), (12, 40), (12, 40), (4, 0), (12, 40), (12, 40), (12, 40), (12, 40), (16, 2), (4, 0), (12, 8), (12, 8), (12, 8), (12, 8), (4, 0), (12, 8), (12, 8), (12, 8), (12, 8), (12, 3), (13, 600), (7, 0), (15, 2), (0, 0), (12, 6), (12, 6), (12, 6), (12, 6), (12, 6), (12, 36), (0, 0), (12, 6), (12, 6), (12, 6), (12, 6), (12, 6), (12, 36), (16, 2), (4, 0), (12, 40), (12, 40), (12, 40), (12, 40), (4, 0), (12, 40), (12, 40), (12, 40), (12, 40), (16, 2), (4, 0), (12, 8), (12, 8), (12, 8), (12, 8), (4, 0), (12, 8), (12, 8), (12, 8), (12, 8), (12, 3), (13, 600), (14, 3), (6, 0), (0, 0), (12, 6), (12, 6), (12, 6), (12, 6), (12, 6), (12, 36), (4, 0), (12, 40), (12, 40), (12, 40), (12, 40), (4, 0), (12, 8), (12, 8), (12, 8), (12, 8), (12, 3), (5, 0), (12, 6), (8, 0), (0, 0), (12, 6), (12, 6), (12, 6), (12, 6), (12, 6), (12, 36), (5, 0), (12, 6), (2, 0), (12, 6), (12, 36), (12, 6), (9, 0), (12, 6), (1, 0), (0, 0), (12, 6), (12, 6), (12, 6), (12, 6), (12, 6), (12, 36), (5, 0), (12, 6), (12, 6), (12, 6), (3, 0), (12, 729), (12, 729), (12, 6), (12, 36), (11, 0), (13, 2400), (12, 4), (12, 4), (12, 4), (12, 12), (12, 544), (12, 1288), (12, 200), (12, 161), (12, 4), (12, 6), (12, 6), (12, 6), (12, 6), (12, 36), (12, 6), (12, 2401), (12, 729), (12, 6), (12, 6), (12, 6), (12, 6), (14, 3)]
def pb_IC : List Int32 := [1103515245, 1000000, 1431655765, 858993459, 252645135]
def pb_LC : List Int64 := [-1, 10, 7168366, 426953501796, 6840691, 439787549299, 465625113971, 1936224119, 1751737445, 495588569701, 500135453044, 7304564, 1885954923, 2036687218, 31650977226781299, 7237492, 2]
def pb_S1 : List Int32 := [0, 0, 1, 2, 3, 4, 5, 5, 6, 6]
def pb_S2 : List Int32 := [0, 32, 2080]
def pb_S3 : List Int32 := [9, -1, -1, 20, 30, -1, 5, 5, -1, 5, 5, -1, 5, 5, 9, 5, 5, -1, 5, 5, -1, 5, 5, -1, 5, 5, 9, 5, -1, -1, -1, -1, -1, -1, -1, -1, 63, 63, -1, 63, 63, -1]
def pb_S4 : List Int32 := [0, 5, 12, 14]
def pb_WD : List Int32 := [109, 97, 110, 32, 32, 32, 32, 32, 99, 104, 105, 108, 100, 32, 32, 32, 104, 97, 115, 32, 32, 32, 32, 32, 102, 101, 97, 114, 115, 32, 32, 32, 108, 105, 107, 101, 115, 32, 32, 32, 115, 104, 111, 119, 32, 32, 32, 32, 104, 105, 100, 101, 32, 32, 32, 32, 115, 99, 97, 114, 101, 32, 32, 32, 116, 114, 101, 97, 116, 32, 32, 32, 111, 117, 116, 32, 32, 32, 32, 32, 112, 105, 99, 107, 32, 32, 32, 32, 121, 101, 97, 114, 32, 32, 32, 32, 112, 114, 101, 102, 101, 114, 115, 32, 110, 111, 116, 32, 32, 32, 32, 32]
abbrev pb_El : Type := Instr × Nat × Nat × Nat
def kb_0_0 : List pb_El := [(.aload_n 0, 1, 0, 0), (.invokespecial 3, 3, 1001, 1), (.aload_n 0, 1, 0, 0), (.bipush 6, 2, 6, 0), (.newarray .int, 2, 12, 0), (.putfield 9, 3, 0, 2), (.aload_n 0, 1, 0, 0), (.bipush 6, 2, 6, 0), (.newarray .int, 2, 12, 0), (.putfield 15, 3, 0, 3), (.aload_n 0, 1, 0, 0), (.bipush 6, 2, 6, 0), (.newarray .int, 2, 12, 0), (.putfield 18, 3, 0, 4), (.aload_n 0, 1, 0, 0), (.bipush 6, 2, 6, 0), (.newarray .int, 2, 12, 0), (.putfield 21, 3, 0, 5), (.aload_n 0, 1, 0, 0), (.bipush 6, 2, 6, 0), (.newarray .int, 2, 12, 0), (.putfield 24, 3, 0, 6), (.aload_n 0, 1, 0, 0), (.bipush 36, 2, 36, 0), (.newarray .int, 2, 12, 0), (.putfield 27, 3, 0, 7), (.return_, 1, 0, 0)]
/-- County.<init>()V -/
def kc_0 : List (Nat × List pb_El) := [(0, kb_0_0)]
def kb_1_0 : List pb_El := [(.aload_n 0, 1, 0, 0), (.iconst 0, 1, 0, 0), (.putfield 30, 3, 0, 0), (.aload_n 0, 1, 0, 0), (.iconst 0, 1, 0, 0), (.putfield 34, 3, 0, 1), (.aload_n 0, 1, 0, 0), (.getfield 15, 3, 0, 3), (.iconst 0, 1, 0, 0), (.invokestatic 37, 3, 306, 2), (.aload_n 0, 1, 0, 0), (.getfield 24, 3, 0, 6), (.iconst 0, 1, 0, 0), (.invokestatic 37, 3, 306, 2), (.aload_n 0, 1, 0, 0), (.getfield 27, 3, 0, 7), (.iconst 0, 1, 0, 0), (.invokestatic 37, 3, 306, 2), (.return_, 1, 0, 0)]
/-- County.clear()V -/
def kc_1 : List (Nat × List pb_El) := [(0, kb_1_0)]
def kb_2_0 : List pb_El := [(.aload_n 0, 1, 0, 0), (.aload_n 1, 1, 0, 0), (.getfield 30, 3, 0, 0), (.putfield 30, 3, 0, 0), (.aload_n 0, 1, 0, 0), (.aload_n 1, 1, 0, 0), (.getfield 34, 3, 0, 1), (.putfield 34, 3, 0, 1), (.aload_n 1, 1, 0, 0), (.getfield 9, 3, 0, 2), (.iconst 0, 1, 0, 0), (.aload_n 0, 1, 0, 0), (.getfield 9, 3, 0, 2), (.iconst 0, 1, 0, 0), (.bipush 6, 2, 6, 0), (.invokestatic 43, 3, 1000, 12), (.aload_n 1, 1, 0, 0), (.getfield 15, 3, 0, 3), (.iconst 0, 1, 0, 0), (.aload_n 0, 1, 0, 0), (.getfield 15, 3, 0, 3), (.iconst 0, 1, 0, 0), (.bipush 6, 2, 6, 0), (.invokestatic 43, 3, 1000, 12), (.aload_n 1, 1, 0, 0), (.getfield 18, 3, 0, 4), (.iconst 0, 1, 0, 0), (.aload_n 0, 1, 0, 0), (.getfield 18, 3, 0, 4), (.iconst 0, 1, 0, 0), (.bipush 6, 2, 6, 0), (.invokestatic 43, 3, 1000, 12), (.aload_n 1, 1, 0, 0), (.getfield 21, 3, 0, 5), (.iconst 0, 1, 0, 0), (.aload_n 0, 1, 0, 0), (.getfield 21, 3, 0, 5), (.iconst 0, 1, 0, 0), (.bipush 6, 2, 6, 0), (.invokestatic 43, 3, 1000, 12), (.aload_n 1, 1, 0, 0), (.getfield 24, 3, 0, 6), (.iconst 0, 1, 0, 0), (.aload_n 0, 1, 0, 0), (.getfield 24, 3, 0, 6), (.iconst 0, 1, 0, 0), (.bipush 6, 2, 6, 0), (.invokestatic 43, 3, 1000, 12), (.aload_n 1, 1, 0, 0), (.getfield 27, 3, 0, 7), (.iconst 0, 1, 0, 0), (.aload_n 0, 1, 0, 0), (.getfield 27, 3, 0, 7), (.iconst 0, 1, 0, 0), (.bipush 36, 2, 36, 0), (.invokestatic 43, 3, 1000, 12), (.return_, 1, 0, 0)]
/-- County.take(LPointedBench$County;)V -/
def kc_2 : List (Nat × List pb_El) := [(0, kb_2_0)]
def kb_3_0 : List pb_El := [(.iload_n 1, 1, 0, 0), (.ifCond .lt 15, 3, 16, 0), (.iload_n 1, 1, 0, 0), (.aload_n 0, 1, 0, 0), (.getfield 30, 3, 0, 0), (.if_icmp .ge 7, 3, 16, 0), (.iconst 1, 1, 1, 0), (.goto 4, 3, 17, 0)]
def kb_3_16 : List pb_El := [(.iconst 0, 1, 0, 0)]
def kb_3_17 : List pb_El := [(.ireturn, 1, 0, 0)]
/-- County.hasMan(I)Z -/
def kc_3 : List (Nat × List pb_El) := [(0, kb_3_0), (16, kb_3_16), (17, kb_3_17)]
def kb_4_0 : List pb_El := [(.iload_n 1, 1, 0, 0), (.ifCond .lt 15, 3, 16, 0), (.iload_n 1, 1, 0, 0), (.aload_n 0, 1, 0, 0), (.getfield 34, 3, 0, 1), (.if_icmp .ge 7, 3, 16, 0), (.iconst 1, 1, 1, 0), (.goto 4, 3, 17, 0)]
def kb_4_16 : List pb_El := [(.iconst 0, 1, 0, 0)]
def kb_4_17 : List pb_El := [(.ireturn, 1, 0, 0)]
/-- County.hasChild(I)Z -/
def kc_4 : List (Nat × List pb_El) := [(0, kb_4_0), (16, kb_4_16), (17, kb_4_17)]
def kb_5_0 : List pb_El := [(.iload_n 1, 1, 0, 0), (.ifCond .ge 5, 3, 6, 0), (.iconst (-1), 1, 1, 1), (.ireturn, 1, 0, 0)]
def kb_5_6 : List pb_El := [(.iload_n 1, 1, 0, 0), (.bipush 100, 2, 100, 0), (.if_icmp .lt 12, 3, 21, 0), (.aload_n 0, 1, 0, 0), (.iload_n 1, 1, 0, 0), (.bipush 100, 2, 100, 0), (.isub, 1, 0, 0), (.invokevirtual 49, 3, 6, 2), (.ireturn, 1, 0, 0)]
def kb_5_21 : List pb_El := [(.iload_n 1, 1, 0, 0), (.bipush 10, 2, 10, 0), (.irem, 1, 0, 0), (.istore_n 2, 1, 0, 0), (.iload_n 1, 1, 0, 0), (.bipush 10, 2, 10, 0), (.idiv, 1, 0, 0), (.tableswitch 158 0 5 #[38, 63, 82, 101, 120, 139], 38, 0, 0)]
def kb_5_68 : List pb_El := [(.iload_n 2, 1, 0, 0), (.ifCond .ne 10, 3, 79, 0), (.aload_n 0, 1, 0, 0), (.getfield 30, 3, 0, 0), (.goto 16, 3, 92, 0)]
def kb_5_79 : List pb_El := [(.iload_n 2, 1, 0, 0), (.iconst 1, 1, 1, 0), (.if_icmp .ne 10, 3, 91, 0), (.aload_n 0, 1, 0, 0), (.getfield 34, 3, 0, 1), (.goto 4, 3, 92, 0)]
def kb_5_91 : List pb_El := [(.iconst (-1), 1, 1, 1)]
def kb_5_92 : List pb_El := [(.ireturn, 1, 0, 0)]
def kb_5_93 : List pb_El := [(.aload_n 0, 1, 0, 0), (.iload_n 2, 1, 0, 0), (.invokevirtual 53, 3, 3, 2), (.ifCond .eq 12, 3, 110, 0), (.aload_n 0, 1, 0, 0), (.getfield 9, 3, 0, 2), (.iload_n 2, 1, 0, 0), (.iaload, 1, 0, 0), (.goto 4, 3, 111, 0)]
def kb_5_110 : List pb_El := [(.iconst (-1), 1, 1, 1)]
def kb_5_111 : List pb_El := [(.ireturn, 1, 0, 0)]
def kb_5_112 : List pb_El := [(.aload_n 0, 1, 0, 0), (.iload_n 2, 1, 0, 0), (.invokevirtual 53, 3, 3, 2), (.ifCond .eq 12, 3, 129, 0), (.aload_n 0, 1, 0, 0), (.getfield 15, 3, 0, 3), (.iload_n 2, 1, 0, 0), (.iaload, 1, 0, 0), (.goto 4, 3, 130, 0)]
def kb_5_129 : List pb_El := [(.iconst (-1), 1, 1, 1)]
def kb_5_130 : List pb_El := [(.ireturn, 1, 0, 0)]
def kb_5_131 : List pb_El := [(.aload_n 0, 1, 0, 0), (.iload_n 2, 1, 0, 0), (.invokevirtual 57, 3, 4, 2), (.ifCond .eq 12, 3, 148, 0), (.aload_n 0, 1, 0, 0), (.getfield 18, 3, 0, 4), (.iload_n 2, 1, 0, 0), (.iaload, 1, 0, 0), (.goto 4, 3, 149, 0)]
def kb_5_148 : List pb_El := [(.iconst (-1), 1, 1, 1)]
def kb_5_149 : List pb_El := [(.ireturn, 1, 0, 0)]
def kb_5_150 : List pb_El := [(.aload_n 0, 1, 0, 0), (.iload_n 2, 1, 0, 0), (.invokevirtual 57, 3, 4, 2), (.ifCond .eq 12, 3, 167, 0), (.aload_n 0, 1, 0, 0), (.getfield 21, 3, 0, 5), (.iload_n 2, 1, 0, 0), (.iaload, 1, 0, 0), (.goto 4, 3, 168, 0)]
def kb_5_167 : List pb_El := [(.iconst (-1), 1, 1, 1)]
def kb_5_168 : List pb_El := [(.ireturn, 1, 0, 0)]
def kb_5_169 : List pb_El := [(.aload_n 0, 1, 0, 0), (.iload_n 2, 1, 0, 0), (.invokevirtual 57, 3, 4, 2), (.ifCond .eq 12, 3, 186, 0), (.aload_n 0, 1, 0, 0), (.getfield 24, 3, 0, 6), (.iload_n 2, 1, 0, 0), (.iaload, 1, 0, 0), (.goto 4, 3, 187, 0)]
def kb_5_186 : List pb_El := [(.iconst (-1), 1, 1, 1)]
def kb_5_187 : List pb_El := [(.ireturn, 1, 0, 0)]
def kb_5_188 : List pb_El := [(.iconst (-1), 1, 1, 1), (.ireturn, 1, 0, 0)]
/-- County.told(I)I -/
def kc_5 : List (Nat × List pb_El) := [(0, kb_5_0), (6, kb_5_6), (21, kb_5_21), (68, kb_5_68), (79, kb_5_79), (91, kb_5_91), (92, kb_5_92), (93, kb_5_93), (110, kb_5_110), (111, kb_5_111), (112, kb_5_112), (129, kb_5_129), (130, kb_5_130), (131, kb_5_131), (148, kb_5_148), (149, kb_5_149), (150, kb_5_150), (167, kb_5_167), (168, kb_5_168), (169, kb_5_169), (186, kb_5_186), (187, kb_5_187), (188, kb_5_188)]
def kb_6_0 : List pb_El := [(.iload_n 1, 1, 0, 0), (.bipush 10, 2, 10, 0), (.idiv, 1, 0, 0), (.istore_n 2, 1, 0, 0), (.iload_n 1, 1, 0, 0), (.bipush 10, 2, 10, 0), (.irem, 1, 0, 0), (.istore_n 3, 1, 0, 0), (.aload_n 0, 1, 0, 0), (.iload_n 2, 1, 0, 0), (.invokevirtual 57, 3, 4, 2), (.ifCond .eq 27, 3, 42, 0), (.iload_n 3, 1, 0, 0), (.ifCond .lt 23, 3, 42, 0), (.iload_n 3, 1, 0, 0), (.bipush 6, 2, 6, 0), (.if_icmp .ge 17, 3, 42, 0), (.aload_n 0, 1, 0, 0), (.getfield 27, 3, 0, 7), (.iload_n 2, 1, 0, 0), (.bipush 6, 2, 6, 0), (.imul, 1, 0, 0), (.iload_n 3, 1, 0, 0), (.iadd, 1, 0, 0), (.iaload, 1, 0, 0), (.goto 4, 3, 43, 0)]
def kb_6_42 : List pb_El := [(.iconst (-1), 1, 1, 1)]
def kb_6_43 : List pb_El := [(.ireturn, 1, 0, 0)]
/-- County.likesTold(I)I -/
def kc_6 : List (Nat × List pb_El) := [(0, kb_6_0), (42, kb_6_42), (43, kb_6_43)]
def kb_7_0 : List pb_El := [(.aload_n 0, 1, 0, 0), (.iload_n 1, 1, 0, 0), (.invokevirtual 57, 3, 4, 2), (.ifCond .eq 27, 3, 32, 0), (.aload_n 0, 1, 0, 0), (.getfield 18, 3, 0, 4), (.iload_n 1, 1, 0, 0), (.iaload, 1, 0, 0), (.bipush 12, 2, 12, 0), (.if_icmp .gt 16, 3, 32, 0), (.aload_n 0, 1, 0, 0), (.getfield 21, 3, 0, 5), (.iload_n 1, 1, 0, 0), (.iaload, 1, 0, 0), (.ifCond .le 7, 3, 32, 0), (.iconst 1, 1, 1, 0), (.goto 4, 3, 33, 0)]
def kb_7_32 : List pb_El := [(.iconst 0, 1, 0, 0)]
def kb_7_33 : List pb_El := [(.ireturn, 1, 0, 0)]
/-- County.votes(I)Z -/
def kc_7 : List (Nat × List pb_El) := [(0, kb_7_0), (32, kb_7_32), (33, kb_7_33)]
def kb_8_0 : List pb_El := [(.iconst 0, 1, 0, 0), (.istore_n 1, 1, 0, 0), (.iconst 0, 1, 0, 0), (.istore_n 2, 1, 0, 0)]
def kb_8_4 : List pb_El := [(.iload_n 2, 1, 0, 0), (.aload_n 0, 1, 0, 0), (.getfield 34, 3, 0, 1), (.if_icmp .ge 21, 3, 30, 0), (.aload_n 0, 1, 0, 0), (.getfield 21, 3, 0, 5), (.iload_n 2, 1, 0, 0), (.iaload, 1, 0, 0), (.ifCond .le 6, 3, 24, 0), (.iinc 1 1, 3, 1, 0)]
def kb_8_24 : List pb_El := [(.iinc 2 1, 3, 1, 0), (.goto (-23), 3, 4, 0)]
def kb_8_30 : List pb_El := [(.iload_n 1, 1, 0, 0), (.ireturn, 1, 0, 0)]
/-- County.fathersIn()I -/
def kc_8 : List (Nat × List pb_El) := [(0, kb_8_0), (4, kb_8_4), (24, kb_8_24), (30, kb_8_30)]
def kb_9_0 : List pb_El := [(.aload_n 0, 1, 0, 0), (.getfield 24, 3, 0, 6), (.iload_n 1, 1, 0, 0), (.iaload, 1, 0, 0), (.aload_n 0, 1, 0, 0), (.getfield 15, 3, 0, 3), (.iload_n 2, 1, 0, 0), (.iaload, 1, 0, 0), (.iand, 1, 0, 0), (.ifCond .eq 5, 3, 18, 0), (.iconst (-1), 1, 1, 1), (.ireturn, 1, 0, 0)]
def kb_9_18 : List pb_El := [(.iconst 0, 1, 0, 0), (.istore_n 3, 1, 0, 0), (.iconst 0, 1, 0, 0), (.istore 4, 2, 0, 0)]
def kb_9_23 : List pb_El := [(.iload 4, 2, 0, 0), (.bipush 6, 2, 6, 0), (.if_icmp .ge 38, 3, 65, 0), (.aload_n 0, 1, 0, 0), (.getfield 15, 3, 0, 3), (.iload_n 2, 1, 0, 0), (.iaload, 1, 0, 0), (.iload 4, 2, 0, 0), (.ishr, 1, 0, 0), (.iconst 1, 1, 1, 0), (.iand, 1, 0, 0), (.ifCond .eq 18, 3, 59, 0), (.iload_n 3, 1, 0, 0), (.aload_n 0, 1, 0, 0), (.getfield 27, 3, 0, 7), (.iload_n 1, 1, 0, 0), (.bipush 6, 2, 6, 0), (.imul, 1, 0, 0), (.iload 4, 2, 0, 0), (.iadd, 1, 0, 0), (.iaload, 1, 0, 0), (.iadd, 1, 0, 0), (.istore_n 3, 1, 0, 0)]
def kb_9_59 : List pb_El := [(.iinc 4 1, 3, 1, 0), (.goto (-39), 3, 23, 0)]
def kb_9_65 : List pb_El := [(.iload_n 3, 1, 0, 0), (.ireturn, 1, 0, 0)]
/-- County.regard(II)I -/
def kc_9 : List (Nat × List pb_El) := [(0, kb_9_0), (18, kb_9_18), (23, kb_9_23), (59, kb_9_59), (65, kb_9_65)]
def kb_10_0 : List pb_El := [(.iconst 0, 1, 0, 0), (.istore_n 2, 1, 0, 0), (.iconst 0, 1, 0, 0), (.istore_n 3, 1, 0, 0)]
def kb_10_4 : List pb_El := [(.iload_n 3, 1, 0, 0), (.aload_n 0, 1, 0, 0), (.getfield 34, 3, 0, 1), (.if_icmp .ge 23, 3, 32, 0), (.iload_n 2, 1, 0, 0), (.aload_n 0, 1, 0, 0), (.getfield 27, 3, 0, 7), (.iload_n 3, 1, 0, 0), (.bipush 6, 2, 6, 0), (.imul, 1, 0, 0), (.iload_n 1, 1, 0, 0), (.iadd, 1, 0, 0), (.iaload, 1, 0, 0), (.iadd, 1, 0, 0), (.istore_n 2, 1, 0, 0), (.iinc 3 1, 3, 1, 0), (.goto (-25), 3, 4, 0)]
def kb_10_32 : List pb_El := [(.iload_n 2, 1, 0, 0), (.ireturn, 1, 0, 0)]
/-- County.sweetness(I)I -/
def kc_10 : List (Nat × List pb_El) := [(0, kb_10_0), (4, kb_10_4), (32, kb_10_32)]
def kb_11_0 : List pb_El := [(.iconst (-1), 1, 1, 1), (.istore_n 3, 1, 0, 0), (.bipush 6, 2, 6, 0), (.istore 4, 2, 0, 0), (.iconst 0, 1, 0, 0), (.istore 5, 2, 0, 0)]
def kb_11_9 : List pb_El := [(.iload 5, 2, 0, 0), (.aload_n 0, 1, 0, 0), (.getfield 30, 3, 0, 0), (.if_icmp .ge 40, 3, 55, 0), (.iload_n 2, 1, 0, 0), (.iload 5, 2, 0, 0), (.ishr, 1, 0, 0), (.iconst 1, 1, 1, 0), (.iand, 1, 0, 0), (.ifCond .eq 25, 3, 49, 0), (.aload_n 0, 1, 0, 0), (.iload_n 1, 1, 0, 0), (.iload 5, 2, 0, 0), (.invokevirtual 60, 3, 9, 3), (.istore 6, 2, 0, 0), (.iload 6, 2, 0, 0), (.iload_n 3, 1, 0, 0), (.if_icmp .le 10, 3, 49, 0), (.iload 6, 2, 0, 0), (.istore_n 3, 1, 0, 0), (.iload 5, 2, 0, 0), (.istore 4, 2, 0, 0)]
def kb_11_49 : List pb_El := [(.iinc 5 1, 3, 1, 0), (.goto (-43), 3, 9, 0)]
def kb_11_55 : List pb_El := [(.iload 4, 2, 0, 0), (.ireturn, 1, 0, 0)]
/-- County.pointOf(II)I -/
def kc_11 : List (Nat × List pb_El) := [(0, kb_11_0), (9, kb_11_9), (49, kb_11_49), (55, kb_11_55)]
def kb_12_0 : List pb_El := [(.aload_n 0, 1, 0, 0), (.getfield 21, 3, 0, 5), (.iload_n 2, 1, 0, 0), (.iaload, 1, 0, 0), (.ifCond .le 25, 3, 31, 0), (.bipush 10, 2, 10, 0), (.aload_n 0, 1, 0, 0), (.getfield 9, 3, 0, 2), (.iload_n 1, 1, 0, 0), (.iaload, 1, 0, 0), (.imul, 1, 0, 0), (.aload_n 0, 1, 0, 0), (.getfield 21, 3, 0, 5), (.iload_n 2, 1, 0, 0), (.iaload, 1, 0, 0), (.if_icmp .lt 7, 3, 31, 0), (.iconst 1, 1, 1, 0), (.goto 4, 3, 32, 0)]
def kb_12_31 : List pb_El := [(.iconst 0, 1, 0, 0)]
def kb_12_32 : List pb_El := [(.ireturn, 1, 0, 0)]
/-- County.wouldFree(II)Z -/
def kc_12 : List (Nat × List pb_El) := [(0, kb_12_0), (31, kb_12_31), (32, kb_12_32)]
def kb_13_0 : List pb_El := [(.iload_n 1, 1, 0, 0), (.tableswitch 73 1 6 #[39, 44, 49, 54, 63, 68], 39, 0, 0)]
def kb_13_40 : List pb_El := [(.aload_n 0, 1, 0, 0), (.invokevirtual 64, 3, 14, 1), (.ireturn, 1, 0, 0)]
def kb_13_45 : List pb_El := [(.aload_n 0, 1, 0, 0), (.invokevirtual 68, 3, 15, 1), (.ireturn, 1, 0, 0)]
def kb_13_50 : List pb_El := [(.aload_n 0, 1, 0, 0), (.invokevirtual 71, 3, 16, 1), (.ireturn, 1, 0, 0)]
def kb_13_55 : List pb_El := [(.aload_n 0, 1, 0, 0), (.invokevirtual 74, 3, 17, 1), (.iconst 0, 1, 0, 0), (.invokestatic 77, 3, 164, 2), (.ireturn, 1, 0, 0)]
def kb_13_64 : List pb_El := [(.aload_n 0, 1, 0, 0), (.invokevirtual 74, 3, 17, 1), (.ireturn, 1, 0, 0)]
def kb_13_69 : List pb_El := [(.aload_n 0, 1, 0, 0), (.invokevirtual 81, 3, 19, 1), (.ireturn, 1, 0, 0)]
def kb_13_74 : List pb_El := [(.bipush (-2), 2, 2, 1), (.ireturn, 1, 0, 0)]
/-- County.outstanding(I)I -/
def kc_13 : List (Nat × List pb_El) := [(0, kb_13_0), (40, kb_13_40), (45, kb_13_45), (50, kb_13_50), (55, kb_13_55), (64, kb_13_64), (69, kb_13_69), (74, kb_13_74)]
def kb_14_0 : List pb_El := [(.iconst (-1), 1, 1, 1), (.istore_n 1, 1, 0, 0), (.iconst 0, 1, 0, 0), (.istore_n 2, 1, 0, 0), (.iconst 0, 1, 0, 0), (.istore_n 3, 1, 0, 0)]
def kb_14_6 : List pb_El := [(.iload_n 3, 1, 0, 0), (.bipush 6, 2, 6, 0), (.if_icmp .ge 26, 3, 35, 0), (.aload_n 0, 1, 0, 0), (.iload_n 3, 1, 0, 0), (.invokevirtual 84, 3, 10, 2), (.iload_n 1, 1, 0, 0), (.if_icmp .le 11, 3, 29, 0), (.aload_n 0, 1, 0, 0), (.iload_n 3, 1, 0, 0), (.invokevirtual 84, 3, 10, 2), (.istore_n 1, 1, 0, 0), (.iload_n 3, 1, 0, 0), (.istore_n 2, 1, 0, 0)]
def kb_14_29 : List pb_El := [(.iinc 3 1, 3, 1, 0), (.goto (-26), 3, 6, 0)]
def kb_14_35 : List pb_El := [(.iload_n 2, 1, 0, 0), (.ireturn, 1, 0, 0)]
/-- County.sweetest()I -/
def kc_14 : List (Nat × List pb_El) := [(0, kb_14_0), (6, kb_14_6), (29, kb_14_29), (35, kb_14_35)]
def kb_15_0 : List pb_El := [(.bipush 7, 2, 7, 0), (.istore_n 1, 1, 0, 0), (.iconst 0, 1, 0, 0), (.istore_n 2, 1, 0, 0), (.iconst 0, 1, 0, 0), (.istore_n 3, 1, 0, 0)]
def kb_15_7 : List pb_El := [(.iload_n 3, 1, 0, 0), (.bipush 6, 2, 6, 0), (.if_icmp .ge 57, 3, 67, 0), (.iconst 0, 1, 0, 0), (.istore 4, 2, 0, 0), (.iconst 0, 1, 0, 0), (.istore 5, 2, 0, 0)]
def kb_15_19 : List pb_El := [(.iload 5, 2, 0, 0), (.aload_n 0, 1, 0, 0), (.getfield 30, 3, 0, 0), (.if_icmp .ge 25, 3, 50, 0), (.iload 4, 2, 0, 0), (.aload_n 0, 1, 0, 0), (.getfield 15, 3, 0, 3), (.iload 5, 2, 0, 0), (.iaload, 1, 0, 0), (.iload_n 3, 1, 0, 0), (.ishr, 1, 0, 0), (.iconst 1, 1, 1, 0), (.iand, 1, 0, 0), (.iadd, 1, 0, 0), (.istore 4, 2, 0, 0), (.iinc 5 1, 3, 1, 0), (.goto (-28), 3, 19, 0)]
def kb_15_50 : List pb_El := [(.iload 4, 2, 0, 0), (.iload_n 1, 1, 0, 0), (.if_icmp .ge 8, 3, 61, 0), (.iload 4, 2, 0, 0), (.istore_n 1, 1, 0, 0), (.iload_n 3, 1, 0, 0), (.istore_n 2, 1, 0, 0)]
def kb_15_61 : List pb_El := [(.iinc 3 1, 3, 1, 0), (.goto (-57), 3, 7, 0)]
def kb_15_67 : List pb_El := [(.iload_n 2, 1, 0, 0), (.ireturn, 1, 0, 0)]
/-- County.rarest()I -/
def kc_15 : List (Nat × List pb_El) := [(0, kb_15_0), (7, kb_15_7), (19, kb_15_19), (50, kb_15_50), (61, kb_15_61), (67, kb_15_67)]
def kb_16_0 : List pb_El := [(.iconst 0, 1, 0, 0), (.istore_n 1, 1, 0, 0), (.iconst 0, 1, 0, 0), (.istore_n 2, 1, 0, 0)]
def kb_16_4 : List pb_El := [(.iload_n 2, 1, 0, 0), (.aload_n 0, 1, 0, 0), (.getfield 30, 3, 0, 0), (.if_icmp .ge 45, 3, 54, 0), (.iload_n 2, 1, 0, 0), (.iconst 1, 1, 1, 0), (.iadd, 1, 0, 0), (.istore_n 3, 1, 0, 0)]
def kb_16_16 : List pb_El := [(.iload_n 3, 1, 0, 0), (.aload_n 0, 1, 0, 0), (.getfield 30, 3, 0, 0), (.if_icmp .ge 27, 3, 48, 0), (.aload_n 0, 1, 0, 0), (.getfield 15, 3, 0, 3), (.iload_n 2, 1, 0, 0), (.iaload, 1, 0, 0), (.aload_n 0, 1, 0, 0), (.getfield 15, 3, 0, 3), (.iload_n 3, 1, 0, 0), (.iaload, 1, 0, 0), (.if_icmp .ne 6, 3, 42, 0), (.iinc 1 1, 3, 1, 0)]
def kb_16_42 : List pb_El := [(.iinc 3 1, 3, 1, 0), (.goto (-29), 3, 16, 0)]
def kb_16_48 : List pb_El := [(.iinc 2 1, 3, 1, 0), (.goto (-47), 3, 4, 0)]
def kb_16_54 : List pb_El := [(.iload_n 1, 1, 0, 0), (.ireturn, 1, 0, 0)]
/-- County.twins()I -/
def kc_16 : List (Nat × List pb_El) := [(0, kb_16_0), (4, kb_16_4), (16, kb_16_16), (42, kb_16_42), (48, kb_16_48), (54, kb_16_54)]
def kb_17_0 : List pb_El := [(.aload_n 0, 1, 0, 0), (.bipush 63, 2, 63, 0), (.invokevirtual 87, 3, 18, 2), (.istore_n 1, 1, 0, 0), (.bipush 7, 2, 7, 0), (.istore_n 2, 1, 0, 0), (.iconst 0, 1, 0, 0), (.istore_n 3, 1, 0, 0), (.iconst 0, 1, 0, 0), (.istore 4, 2, 0, 0)]
def kb_17_15 : List pb_El := [(.iload 4, 2, 0, 0), (.iconst 1, 1, 1, 0), (.aload_n 0, 1, 0, 0), (.getfield 30, 3, 0, 0), (.ishl, 1, 0, 0), (.if_icmp .ge 37, 3, 60, 0), (.iload 4, 2, 0, 0), (.invokestatic 90, 3, 305, 1), (.iload_n 2, 1, 0, 0), (.if_icmp .ge 22, 3, 54, 0), (.aload_n 0, 1, 0, 0), (.iload 4, 2, 0, 0), (.invokevirtual 87, 3, 18, 2), (.iload_n 1, 1, 0, 0), (.if_icmp .ne 12, 3, 54, 0), (.iload 4, 2, 0, 0), (.invokestatic 90, 3, 305, 1), (.istore_n 2, 1, 0, 0), (.iload 4, 2, 0, 0), (.istore_n 3, 1, 0, 0)]
def kb_17_54 : List pb_El := [(.iinc 4 1, 3, 1, 0), (.goto (-42), 3, 15, 0)]
def kb_17_60 : List pb_El := [(.iload_n 3, 1, 0, 0), (.ireturn, 1, 0, 0)]
/-- County.guards()I -/
def kc_17 : List (Nat × List pb_El) := [(0, kb_17_0), (15, kb_17_15), (54, kb_17_54), (60, kb_17_60)]
def kb_18_0 : List pb_El := [(.iconst 0, 1, 0, 0), (.istore_n 2, 1, 0, 0), (.iconst 0, 1, 0, 0), (.istore_n 3, 1, 0, 0)]
def kb_18_4 : List pb_El := [(.iload_n 3, 1, 0, 0), (.aload_n 0, 1, 0, 0), (.getfield 30, 3, 0, 0), (.if_icmp .ge 26, 3, 35, 0), (.iload_n 1, 1, 0, 0), (.iload_n 3, 1, 0, 0), (.ishr, 1, 0, 0), (.iconst 1, 1, 1, 0), (.iand, 1, 0, 0), (.ifCond .eq 12, 3, 29, 0), (.iload_n 2, 1, 0, 0), (.aload_n 0, 1, 0, 0), (.getfield 15, 3, 0, 3), (.iload_n 3, 1, 0, 0), (.iaload, 1, 0, 0), (.ior, 1, 0, 0), (.istore_n 2, 1, 0, 0)]
def kb_18_29 : List pb_El := [(.iinc 3 1, 3, 1, 0), (.goto (-28), 3, 4, 0)]
def kb_18_35 : List pb_El := [(.iload_n 2, 1, 0, 0), (.ireturn, 1, 0, 0)]
/-- County.traitsOf(I)I -/
def kc_18 : List (Nat × List pb_El) := [(0, kb_18_0), (4, kb_18_4), (29, kb_18_29), (35, kb_18_35)]
def kb_19_0 : List pb_El := [(.iconst 0, 1, 0, 0), (.istore_n 1, 1, 0, 0), (.iconst 0, 1, 0, 0), (.istore_n 2, 1, 0, 0)]
def kb_19_4 : List pb_El := [(.iload_n 2, 1, 0, 0), (.aload_n 0, 1, 0, 0), (.getfield 34, 3, 0, 1), (.if_icmp .ge 20, 3, 29, 0), (.iload_n 1, 1, 0, 0), (.aload_n 0, 1, 0, 0), (.getfield 21, 3, 0, 5), (.iload_n 2, 1, 0, 0), (.iaload, 1, 0, 0), (.invokestatic 95, 3, 1003, 2), (.istore_n 1, 1, 0, 0), (.iinc 2 1, 3, 1, 0), (.goto (-22), 3, 4, 0)]
def kb_19_29 : List pb_El := [(.iload_n 1, 1, 0, 0), (.ireturn, 1, 0, 0)]
/-- County.longest()I -/
def kc_19 : List (Nat × List pb_El) := [(0, kb_19_0), (4, kb_19_4), (29, kb_19_29)]
def kb_20_0 : List pb_El := [(.iconst 0, 1, 0, 0), (.istore_n 1, 1, 0, 0), (.iconst 0, 1, 0, 0), (.istore_n 2, 1, 0, 0)]
def kb_20_4 : List pb_El := [(.iload_n 2, 1, 0, 0), (.aload_n 0, 1, 0, 0), (.getfield 30, 3, 0, 0), (.if_icmp .ge 61, 3, 70, 0), (.iconst 0, 1, 0, 0), (.istore_n 3, 1, 0, 0), (.iconst 0, 1, 0, 0), (.istore 4, 2, 0, 0)]
def kb_20_17 : List pb_El := [(.iload 4, 2, 0, 0), (.aload_n 0, 1, 0, 0), (.getfield 34, 3, 0, 1), (.if_icmp .ge 28, 3, 51, 0), (.aload_n 0, 1, 0, 0), (.iload 4, 2, 0, 0), (.bipush 63, 2, 63, 0), (.invokevirtual 100, 3, 11, 3), (.iload_n 2, 1, 0, 0), (.if_icmp .ne 10, 3, 45, 0), (.iload_n 3, 1, 0, 0), (.iconst 1, 1, 1, 0), (.iload 4, 2, 0, 0), (.ishl, 1, 0, 0), (.ior, 1, 0, 0), (.istore_n 3, 1, 0, 0)]
def kb_20_45 : List pb_El := [(.iinc 4 1, 3, 1, 0), (.goto (-31), 3, 17, 0)]
def kb_20_51 : List pb_El := [(.iload_n 3, 1, 0, 0), (.invokestatic 90, 3, 305, 1), (.iload_n 1, 1, 0, 0), (.invokestatic 90, 3, 305, 1), (.if_icmp .le 5, 3, 64, 0), (.iload_n 3, 1, 0, 0), (.istore_n 1, 1, 0, 0)]
def kb_20_64 : List pb_El := [(.iinc 2 1, 3, 1, 0), (.goto (-63), 3, 4, 0)]
def kb_20_70 : List pb_El := [(.iload_n 1, 1, 0, 0), (.ireturn, 1, 0, 0)]
/-- County.greatestGang()I -/
def kc_20 : List (Nat × List pb_El) := [(0, kb_20_0), (4, kb_20_4), (17, kb_20_17), (45, kb_20_45), (51, kb_20_51), (64, kb_20_64), (70, kb_20_70)]
def kb_21_0 : List pb_El := [(.iconst 0, 1, 0, 0), (.istore_n 2, 1, 0, 0)]
def kb_21_2 : List pb_El := [(.iload_n 2, 1, 0, 0), (.aload_n 0, 1, 0, 0), (.getfield 30, 3, 0, 0), (.if_icmp .ge 77, 3, 84, 0), (.iconst 0, 1, 0, 0), (.istore_n 3, 1, 0, 0), (.iconst 0, 1, 0, 0), (.istore 4, 2, 0, 0)]
def kb_21_15 : List pb_El := [(.iload 4, 2, 0, 0), (.aload_n 0, 1, 0, 0), (.getfield 30, 3, 0, 0), (.if_icmp .ge 50, 3, 71, 0), (.aload_n 0, 1, 0, 0), (.getfield 9, 3, 0, 2), (.iload 4, 2, 0, 0), (.iaload, 1, 0, 0), (.aload_n 0, 1, 0, 0), (.getfield 9, 3, 0, 2), (.iload_n 2, 1, 0, 0), (.iaload, 1, 0, 0), (.if_icmp .gt 25, 3, 62, 0), (.aload_n 0, 1, 0, 0), (.getfield 9, 3, 0, 2), (.iload 4, 2, 0, 0), (.iaload, 1, 0, 0), (.aload_n 0, 1, 0, 0), (.getfield 9, 3, 0, 2), (.iload_n 2, 1, 0, 0), (.iaload, 1, 0, 0), (.if_icmp .ne 12, 3, 65, 0), (.iload 4, 2, 0, 0), (.iload_n 2, 1, 0, 0), (.if_icmp .ge 6, 3, 65, 0)]
def kb_21_62 : List pb_El := [(.iinc 3 1, 3, 1, 0)]
def kb_21_65 : List pb_El := [(.iinc 4 1, 3, 1, 0), (.goto (-53), 3, 15, 0)]
def kb_21_71 : List pb_El := [(.iload_n 3, 1, 0, 0), (.iload_n 1, 1, 0, 0), (.if_icmp .ne 5, 3, 78, 0), (.iload_n 2, 1, 0, 0), (.ireturn, 1, 0, 0)]
def kb_21_78 : List pb_El := [(.iinc 2 1, 3, 1, 0), (.goto (-79), 3, 2, 0)]
def kb_21_84 : List pb_El := [(.iconst (-1), 1, 1, 1), (.ireturn, 1, 0, 0)]
/-- County.byKindness(I)I -/
def kc_21 : List (Nat × List pb_El) := [(0, kb_21_0), (2, kb_21_2), (15, kb_21_15), (62, kb_21_62), (65, kb_21_65), (71, kb_21_71), (78, kb_21_78), (84, kb_21_84)]
def kb_22_0 : List pb_El := [(.iconst 0, 1, 0, 0), (.istore_n 3, 1, 0, 0), (.iconst 0, 1, 0, 0), (.istore 4, 2, 0, 0)]
def kb_22_5 : List pb_El := [(.iload 4, 2, 0, 0), (.bipush 6, 2, 6, 0), (.if_icmp .ge 40, 3, 49, 0), (.iload_n 3, 1, 0, 0), (.aload_n 0, 1, 0, 0), (.getfield 27, 3, 0, 7), (.iload_n 1, 1, 0, 0), (.bipush 6, 2, 6, 0), (.imul, 1, 0, 0), (.iload 4, 2, 0, 0), (.iadd, 1, 0, 0), (.iaload, 1, 0, 0), (.aload_n 0, 1, 0, 0), (.getfield 27, 3, 0, 7), (.iload_n 2, 1, 0, 0), (.bipush 6, 2, 6, 0), (.imul, 1, 0, 0), (.iload 4, 2, 0, 0), (.iadd, 1, 0, 0), (.iaload, 1, 0, 0), (.isub, 1, 0, 0), (.invokestatic 103, 3, 1005, 1), (.iadd, 1, 0, 0), (.istore_n 3, 1, 0, 0), (.iinc 4 1, 3, 1, 0), (.goto (-41), 3, 5, 0)]
def kb_22_49 : List pb_El := [(.iload_n 3, 1, 0, 0), (.ireturn, 1, 0, 0)]
/-- County.distance(II)I -/
def kc_22 : List (Nat × List pb_El) := [(0, kb_22_0), (5, kb_22_5), (49, kb_22_49)]
def kb_23_0 : List pb_El := [(.aload_n 0, 1, 0, 0), (.iload_n 1, 1, 0, 0), (.invokevirtual 53, 3, 3, 2), (.ifCond .ne 5, 3, 10, 0), (.iconst (-1), 1, 1, 1), (.ireturn, 1, 0, 0)]
def kb_23_10 : List pb_El := [(.iconst 1, 1, 1, 0), (.aload_n 0, 1, 0, 0), (.getfield 30, 3, 0, 0), (.ishl, 1, 0, 0), (.iconst 1, 1, 1, 0), (.isub, 1, 0, 0), (.istore_n 2, 1, 0, 0), (.iconst (-1), 1, 1, 1), (.istore_n 3, 1, 0, 0), (.iconst 0, 1, 0, 0), (.istore 4, 2, 0, 0)]
def kb_23_24 : List pb_El := [(.iload 4, 2, 0, 0), (.iload_n 1, 1, 0, 0), (.if_icmp .gt 23, 3, 50, 0), (.aload_n 0, 1, 0, 0), (.iload_n 2, 1, 0, 0), (.invokevirtual 106, 3, 24, 2), (.istore_n 3, 1, 0, 0), (.iload_n 2, 1, 0, 0), (.iconst 1, 1, 1, 0), (.iload_n 3, 1, 0, 0), (.ishl, 1, 0, 0), (.iconst (-1), 1, 1, 1), (.ixor, 1, 0, 0), (.iand, 1, 0, 0), (.istore_n 2, 1, 0, 0), (.iinc 4 1, 3, 1, 0), (.goto (-23), 3, 24, 0)]
def kb_23_50 : List pb_El := [(.iload_n 3, 1, 0, 0), (.ireturn, 1, 0, 0)]
/-- County.goingAt(I)I -/
def kc_23 : List (Nat × List pb_El) := [(0, kb_23_0), (10, kb_23_10), (24, kb_23_24), (50, kb_23_50)]
def kb_24_0 : List pb_El := [(.bipush 7, 2, 7, 0), (.istore_n 2, 1, 0, 0), (.iconst 0, 1, 0, 0), (.istore_n 3, 1, 0, 0), (.iconst 0, 1, 0, 0), (.istore 4, 2, 0, 0)]
def kb_24_8 : List pb_El := [(.iload 4, 2, 0, 0), (.aload_n 0, 1, 0, 0), (.getfield 30, 3, 0, 0), (.if_icmp .ge 75, 3, 89, 0), (.iload_n 1, 1, 0, 0), (.iload 4, 2, 0, 0), (.ishr, 1, 0, 0), (.iconst 1, 1, 1, 0), (.iand, 1, 0, 0), (.ifCond .eq 60, 3, 83, 0), (.iconst 0, 1, 0, 0), (.istore 5, 2, 0, 0), (.iconst 0, 1, 0, 0), (.istore 6, 2, 0, 0)]
def kb_24_32 : List pb_El := [(.iload 6, 2, 0, 0), (.aload_n 0, 1, 0, 0), (.getfield 34, 3, 0, 1), (.if_icmp .ge 33, 3, 71, 0), (.aload_n 0, 1, 0, 0), (.iload 6, 2, 0, 0), (.invokevirtual 109, 3, 7, 2), (.ifCond .eq 18, 3, 65, 0), (.aload_n 0, 1, 0, 0), (.iload 6, 2, 0, 0), (.iload_n 1, 1, 0, 0), (.invokevirtual 100, 3, 11, 3), (.iload 4, 2, 0, 0), (.if_icmp .ne 6, 3, 65, 0), (.iinc 5 1, 3, 1, 0)]
def kb_24_65 : List pb_El := [(.iinc 6 1, 3, 1, 0), (.goto (-36), 3, 32, 0)]
def kb_24_71 : List pb_El := [(.iload 5, 2, 0, 0), (.iload_n 2, 1, 0, 0), (.if_icmp .gt 9, 3, 83, 0), (.iload 5, 2, 0, 0), (.istore_n 2, 1, 0, 0), (.iload 4, 2, 0, 0), (.istore_n 3, 1, 0, 0)]
def kb_24_83 : List pb_El := [(.iinc 4 1, 3, 1, 0), (.goto (-78), 3, 8, 0)]
def kb_24_89 : List pb_El := [(.iload_n 3, 1, 0, 0), (.ireturn, 1, 0, 0)]
/-- County.weakest(I)I -/
def kc_24 : List (Nat × List pb_El) := [(0, kb_24_0), (8, kb_24_8), (32, kb_24_32), (65, kb_24_65), (71, kb_24_71), (83, kb_24_83), (89, kb_24_89)]
def kb_25_0 : List pb_El := [(.aload_n 0, 1, 0, 0), (.iload_n 1, 1, 0, 0), (.bipush 63, 2, 63, 0), (.invokevirtual 100, 3, 11, 3), (.iload_n 2, 1, 0, 0), (.if_icmp .ne 5, 3, 13, 0), (.iconst 0, 1, 0, 0), (.ireturn, 1, 0, 0)]
def kb_25_13 : List pb_El := [(.iconst (-1), 1, 1, 1), (.istore 4, 2, 0, 0), (.iconst (-1), 1, 1, 1), (.istore 5, 2, 0, 0), (.iconst 0, 1, 0, 0), (.istore 6, 2, 0, 0)]
def kb_25_22 : List pb_El := [(.iload 6, 2, 0, 0), (.bipush 6, 2, 6, 0), (.if_icmp .ge 46, 3, 72, 0), (.aload_n 0, 1, 0, 0), (.iload_n 1, 1, 0, 0), (.iload_n 2, 1, 0, 0), (.iload 6, 2, 0, 0), (.invokevirtual 112, 3, 26, 4), (.istore 7, 2, 0, 0), (.iload 7, 2, 0, 0), (.iconst (-1), 1, 1, 1), (.if_icmp .eq 24, 3, 66, 0), (.iload 4, 2, 0, 0), (.iconst (-1), 1, 1, 1), (.if_icmp .eq 10, 3, 58, 0), (.iload 7, 2, 0, 0), (.iload 4, 2, 0, 0), (.if_icmp .ge 11, 3, 66, 0)]
def kb_25_58 : List pb_El := [(.iload 7, 2, 0, 0), (.istore 4, 2, 0, 0), (.iload 6, 2, 0, 0), (.istore 5, 2, 0, 0)]
def kb_25_66 : List pb_El := [(.iinc 6 1, 3, 1, 0), (.goto (-47), 3, 22, 0)]
def kb_25_72 : List pb_El := [(.iload_n 3, 1, 0, 0), (.ifCond .eq 8, 3, 81, 0), (.iload 5, 2, 0, 0), (.goto 5, 3, 83, 0)]
def kb_25_81 : List pb_El := [(.iload 4, 2, 0, 0)]
def kb_25_83 : List pb_El := [(.ireturn, 1, 0, 0)]
/-- County.fewestBuns(IIZ)I -/
def kc_25 : List (Nat × List pb_El) := [(0, kb_25_0), (13, kb_25_13), (22, kb_25_22), (58, kb_25_58), (66, kb_25_66), (72, kb_25_72), (81, kb_25_81), (83, kb_25_83)]
def kb_26_0 : List pb_El := [(.aload_n 0, 1, 0, 0), (.iload_n 1, 1, 0, 0), (.iload_n 2, 1, 0, 0), (.invokevirtual 60, 3, 9, 3), (.istore 4, 2, 0, 0), (.iload 4, 2, 0, 0), (.iconst (-1), 1, 1, 1), (.if_icmp .eq 16, 3, 27, 0), (.aload_n 0, 1, 0, 0), (.getfield 15, 3, 0, 3), (.iload_n 2, 1, 0, 0), (.iaload, 1, 0, 0), (.iload_n 3, 1, 0, 0), (.ishr, 1, 0, 0), (.iconst 1, 1, 1, 0), (.iand, 1, 0, 0), (.ifCond .ne 5, 3, 29, 0)]
def kb_26_27 : List pb_El := [(.iconst (-1), 1, 1, 1), (.ireturn, 1, 0, 0)]
def kb_26_29 : List pb_El := [(.iconst 0, 1, 0, 0), (.istore 5, 2, 0, 0), (.iconst 0, 1, 0, 0), (.istore 6, 2, 0, 0)]
def kb_26_35 : List pb_El := [(.iload 6, 2, 0, 0), (.aload_n 0, 1, 0, 0), (.getfield 30, 3, 0, 0), (.if_icmp .ge 80, 3, 121, 0), (.aload_n 0, 1, 0, 0), (.iload_n 1, 1, 0, 0), (.iload 6, 2, 0, 0), (.invokevirtual 60, 3, 9, 3), (.iload 4, 2, 0, 0), (.isub, 1, 0, 0), (.iload 6, 2, 0, 0), (.iload_n 2, 1, 0, 0), (.if_icmp .ge 7, 3, 64, 0), (.iconst 1, 1, 1, 0), (.goto 4, 3, 65, 0)]
def kb_26_64 : List pb_El := [(.iconst 0, 1, 0, 0)]
def kb_26_65 : List pb_El := [(.iadd, 1, 0, 0), (.istore 7, 2, 0, 0), (.iload 6, 2, 0, 0), (.iload_n 2, 1, 0, 0), (.if_icmp .eq 44, 3, 115, 0), (.aload_n 0, 1, 0, 0), (.iload_n 1, 1, 0, 0), (.iload 6, 2, 0, 0), (.invokevirtual 60, 3, 9, 3), (.iconst (-1), 1, 1, 1), (.if_icmp .eq 33, 3, 115, 0), (.iload 7, 2, 0, 0), (.ifCond .le 28, 3, 115, 0), (.aload_n 0, 1, 0, 0), (.getfield 15, 3, 0, 3), (.iload 6, 2, 0, 0), (.iaload, 1, 0, 0), (.iload_n 3, 1, 0, 0), (.ishr, 1, 0, 0), (.iconst 1, 1, 1, 0), (.iand, 1, 0, 0), (.ifCond .eq 5, 3, 106, 0), (.iconst (-1), 1, 1, 1), (.ireturn, 1, 0, 0)]
def kb_26_106 : List pb_El := [(.iload 5, 2, 0, 0), (.iload 7, 2, 0, 0), (.invokestatic 95, 3, 1003, 2), (.istore 5, 2, 0, 0)]
def kb_26_115 : List pb_El := [(.iinc 6 1, 3, 1, 0), (.goto (-83), 3, 35, 0)]
def kb_26_121 : List pb_El := [(.iload 5, 2, 0, 0), (.ireturn, 1, 0, 0)]
/-- County.bunsOf(III)I -/
def kc_26 : List (Nat × List pb_El) := [(0, kb_26_0), (27, kb_26_27), (29, kb_26_29), (35, kb_26_35), (64, kb_26_64), (65, kb_26_65), (106, kb_26_106), (115, kb_26_115), (121, kb_26_121)]
def kb_27_0 : List pb_El := [(.aload_n 0, 1, 0, 0), (.invokespecial 3, 3, 1001, 1), (.aload_n 0, 1, 0, 0), (.new 9, 3, 0, 0), (.dup, 1, 0, 0), (.invokespecial 11, 3, 0, 1), (.putfield 12, 3, 1, 0), (.aload_n 0, 1, 0, 0), (.new 18, 3, 5, 0), (.dup, 1, 0, 0), (.invokespecial 20, 3, 75, 1), (.putfield 21, 3, 1, 1), (.aload_n 0, 1, 0, 0), (.bipush 6, 2, 6, 0), (.newarray .int, 2, 12, 0), (.putfield 25, 3, 1, 2), (.aload_n 0, 1, 0, 0), (.bipush 6, 2, 6, 0), (.newarray .int, 2, 12, 0), (.putfield 29, 3, 1, 3), (.return_, 1, 0, 0)]
/-- Course.<init>()V -/
def kc_27 : List (Nat × List pb_El) := [(0, kb_27_0)]
def kb_28_0 : List pb_El := [(.aload_n 0, 1, 0, 0), (.getfield 12, 3, 1, 0), (.aload_n 1, 1, 0, 0), (.invokevirtual 32, 3, 2, 2), (.aload_n 0, 1, 0, 0), (.iconst 0, 1, 0, 0), (.putfield 36, 3, 1, 4), (.aload_n 0, 1, 0, 0), (.bipush 6, 2, 6, 0), (.putfield 40, 3, 1, 5), (.aload_n 0, 1, 0, 0), (.iconst 0, 1, 0, 0), (.putfield 43, 3, 1, 6), (.aload_n 0, 1, 0, 0), (.iconst 0, 1, 0, 0), (.putfield 46, 3, 1, 7), (.return_, 1, 0, 0)]
/-- Course.begin(LPointedBench$County;)V -/
def kc_28 : List (Nat × List pb_El) := [(0, kb_28_0)]
def kb_29_0 : List pb_El := [(.iconst 0, 1, 0, 0), (.istore_n 3, 1, 0, 0)]
def kb_29_2 : List pb_El := [(.iload_n 3, 1, 0, 0), (.iload_n 2, 1, 0, 0), (.if_icmp .ge 20, 3, 24, 0), (.aload_n 0, 1, 0, 0), (.aload_n 1, 1, 0, 0), (.iload_n 3, 1, 0, 0), (.invokevirtual 49, 3, 30, 3), (.ifCond .ne 5, 3, 18, 0), (.iload_n 3, 1, 0, 0), (.ireturn, 1, 0, 0)]
def kb_29_18 : List pb_El := [(.iinc 3 1, 3, 1, 0), (.goto (-19), 3, 2, 0)]
def kb_29_24 : List pb_El := [(.iload_n 2, 1, 0, 0), (.ireturn, 1, 0, 0)]
/-- Course.follow(LPointedBench$Lines;I)I -/
def kc_29 : List (Nat × List pb_El) := [(0, kb_29_0), (2, kb_29_2), (18, kb_29_18), (24, kb_29_24)]
def kb_30_0 : List pb_El := [(.aload_n 0, 1, 0, 0), (.aload_n 1, 1, 0, 0), (.getfield 53, 3, 4, 1), (.iload_n 2, 1, 0, 0), (.iaload, 1, 0, 0), (.aload_n 1, 1, 0, 0), (.getfield 58, 3, 4, 2), (.iload_n 2, 1, 0, 0), (.iaload, 1, 0, 0), (.aload_n 1, 1, 0, 0), (.getfield 61, 3, 4, 3), (.iload_n 2, 1, 0, 0), (.iaload, 1, 0, 0), (.aload_n 1, 1, 0, 0), (.getfield 64, 3, 4, 4), (.iload_n 2, 1, 0, 0), (.iaload, 1, 0, 0), (.invokevirtual 67, 3, 31, 5), (.ireturn, 1, 0, 0)]
/-- Course.doDeed(LPointedBench$Lines;I)Z -/
def kc_30 : List (Nat × List pb_El) := [(0, kb_30_0)]
def kb_31_0 : List pb_El := [(.iload_n 1, 1, 0, 0), (.tableswitch 113 0 5 #[39, 39, 55, 62, 71, 77], 39, 0, 0)]
def kb_31_40 : List pb_El := [(.aload_n 0, 1, 0, 0), (.iload_n 2, 1, 0, 0), (.iload_n 3, 1, 0, 0), (.iload_n 1, 1, 0, 0), (.ifCond .ne 7, 3, 51, 0), (.iconst 1, 1, 1, 0), (.goto 4, 3, 52, 0)]
def kb_31_51 : List pb_El := [(.iconst 0, 1, 0, 0)]
def kb_31_52 : List pb_El := [(.invokevirtual 71, 3, 32, 4), (.ireturn, 1, 0, 0)]
def kb_31_56 : List pb_El := [(.aload_n 0, 1, 0, 0), (.iload_n 2, 1, 0, 0), (.iload_n 3, 1, 0, 0), (.invokevirtual 75, 3, 33, 3), (.ireturn, 1, 0, 0)]
def kb_31_63 : List pb_El := [(.aload_n 0, 1, 0, 0), (.iload_n 2, 1, 0, 0), (.iload_n 3, 1, 0, 0), (.iload 4, 2, 0, 0), (.invokevirtual 79, 3, 34, 4), (.ireturn, 1, 0, 0)]
def kb_31_72 : List pb_El := [(.aload_n 0, 1, 0, 0), (.iload_n 2, 1, 0, 0), (.invokevirtual 83, 3, 35, 2), (.ireturn, 1, 0, 0)]
def kb_31_78 : List pb_El := [(.aload_n 0, 1, 0, 0), (.getfield 21, 3, 1, 1), (.aload_n 0, 1, 0, 0), (.getfield 12, 3, 1, 0), (.invokevirtual 87, 3, 76, 2), (.aload_n 0, 1, 0, 0), (.aload_n 0, 1, 0, 0), (.getfield 21, 3, 1, 1), (.bipush 63, 2, 63, 0), (.invokevirtual 90, 3, 77, 2), (.putfield 40, 3, 1, 5), (.aload_n 0, 1, 0, 0), (.dup, 1, 0, 0), (.getfield 43, 3, 1, 6), (.iconst 1, 1, 1, 0), (.iadd, 1, 0, 0), (.putfield 43, 3, 1, 6), (.iconst 1, 1, 1, 0), (.ireturn, 1, 0, 0)]
def kb_31_114 : List pb_El := [(.aload_n 0, 1, 0, 0), (.invokevirtual 94, 3, 36, 1), (.ireturn, 1, 0, 0)]
/-- Course.act(IIII)Z -/
def kc_31 : List (Nat × List pb_El) := [(0, kb_31_0), (40, kb_31_40), (51, kb_31_51), (52, kb_31_52), (56, kb_31_56), (63, kb_31_63), (72, kb_31_72), (78, kb_31_78), (114, kb_31_114)]
def kb_32_0 : List pb_El := [(.aload_n 0, 1, 0, 0), (.getfield 12, 3, 1, 0), (.iload_n 1, 1, 0, 0), (.invokevirtual 98, 3, 3, 2), (.ifCond .ne 5, 3, 13, 0), (.iconst 0, 1, 0, 0), (.ireturn, 1, 0, 0)]
def kb_32_13 : List pb_El := [(.iload_n 3, 1, 0, 0), (.ifCond .eq 21, 3, 35, 0), (.aload_n 0, 1, 0, 0), (.getfield 12, 3, 1, 0), (.getfield 101, 3, 0, 3), (.iload_n 1, 1, 0, 0), (.dup2, 1, 0, 0), (.iaload, 1, 0, 0), (.iconst 1, 1, 1, 0), (.iload_n 2, 1, 0, 0), (.ishl, 1, 0, 0), (.ior, 1, 0, 0), (.iastore, 1, 0, 0), (.goto 20, 3, 52, 0)]
def kb_32_35 : List pb_El := [(.aload_n 0, 1, 0, 0), (.getfield 12, 3, 1, 0), (.getfield 101, 3, 0, 3), (.iload_n 1, 1, 0, 0), (.dup2, 1, 0, 0), (.iaload, 1, 0, 0), (.iconst 1, 1, 1, 0), (.iload_n 2, 1, 0, 0), (.ishl, 1, 0, 0), (.iconst (-1), 1, 1, 1), (.ixor, 1, 0, 0), (.iand, 1, 0, 0), (.iastore, 1, 0, 0)]
def kb_32_52 : List pb_El := [(.iconst 1, 1, 1, 0), (.ireturn, 1, 0, 0)]
/-- Course.turnTrait(IIZ)Z -/
def kc_32 : List (Nat × List pb_El) := [(0, kb_32_0), (13, kb_32_13), (35, kb_32_35), (52, kb_32_52)]
def kb_33_0 : List pb_El := [(.aload_n 0, 1, 0, 0), (.getfield 12, 3, 1, 0), (.iload_n 1, 1, 0, 0), (.invokevirtual 104, 3, 4, 2), (.ifCond .ne 5, 3, 13, 0), (.iconst 0, 1, 0, 0), (.ireturn, 1, 0, 0)]
def kb_33_13 : List pb_El := [(.aload_n 0, 1, 0, 0), (.getfield 12, 3, 1, 0), (.getfield 107, 3, 0, 6), (.iload_n 1, 1, 0, 0), (.dup2, 1, 0, 0), (.iaload, 1, 0, 0), (.iconst 1, 1, 1, 0), (.iload_n 2, 1, 0, 0), (.ishl, 1, 0, 0), (.ior, 1, 0, 0), (.iastore, 1, 0, 0), (.iconst 1, 1, 1, 0), (.ireturn, 1, 0, 0)]
/-- Course.frighten(II)Z -/
def kc_33 : List (Nat × List pb_El) := [(0, kb_33_0), (13, kb_33_13)]
def kb_34_0 : List pb_El := [(.aload_n 0, 1, 0, 0), (.getfield 12, 3, 1, 0), (.iload_n 1, 1, 0, 0), (.invokevirtual 104, 3, 4, 2), (.ifCond .eq 13, 3, 21, 0), (.iload_n 2, 1, 0, 0), (.ifCond .lt 9, 3, 21, 0), (.iload_n 2, 1, 0, 0), (.bipush 6, 2, 6, 0), (.if_icmp .lt 5, 3, 23, 0)]
def kb_34_21 : List pb_El := [(.iconst 0, 1, 0, 0), (.ireturn, 1, 0, 0)]
def kb_34_23 : List pb_El := [(.iload_n 1, 1, 0, 0), (.bipush 6, 2, 6, 0), (.imul, 1, 0, 0), (.iload_n 2, 1, 0, 0), (.iadd, 1, 0, 0), (.istore 4, 2, 0, 0), (.aload_n 0, 1, 0, 0), (.getfield 12, 3, 1, 0), (.getfield 110, 3, 0, 7), (.iload 4, 2, 0, 0), (.bipush 9, 2, 9, 0), (.aload_n 0, 1, 0, 0), (.getfield 12, 3, 1, 0), (.getfield 110, 3, 0, 7), (.iload 4, 2, 0, 0), (.iaload, 1, 0, 0), (.iload_n 3, 1, 0, 0), (.iadd, 1, 0, 0), (.invokestatic 113, 3, 1004, 2), (.iastore, 1, 0, 0), (.iconst 1, 1, 1, 0), (.ireturn, 1, 0, 0)]
/-- Course.indulge(III)Z -/
def kc_34 : List (Nat × List pb_El) := [(0, kb_34_0), (21, kb_34_21), (23, kb_34_23)]
def kb_35_0 : List pb_El := [(.aload_n 0, 1, 0, 0), (.getfield 12, 3, 1, 0), (.iload_n 1, 1, 0, 0), (.invokevirtual 104, 3, 4, 2), (.ifCond .eq 27, 3, 35, 0), (.aload_n 0, 1, 0, 0), (.getfield 40, 3, 1, 5), (.bipush 6, 2, 6, 0), (.if_icmp .eq 18, 3, 35, 0), (.aload_n 0, 1, 0, 0), (.getfield 12, 3, 1, 0), (.aload_n 0, 1, 0, 0), (.getfield 40, 3, 1, 5), (.iload_n 1, 1, 0, 0), (.invokevirtual 119, 3, 12, 3), (.ifCond .ne 5, 3, 37, 0)]
def kb_35_35 : List pb_El := [(.iconst 0, 1, 0, 0), (.ireturn, 1, 0, 0)]
def kb_35_37 : List pb_El := [(.aload_n 0, 1, 0, 0), (.getfield 12, 3, 1, 0), (.getfield 122, 3, 0, 5), (.iload_n 1, 1, 0, 0), (.iconst 0, 1, 0, 0), (.iastore, 1, 0, 0), (.aload_n 0, 1, 0, 0), (.dup, 1, 0, 0), (.getfield 46, 3, 1, 7), (.iconst 1, 1, 1, 0), (.iadd, 1, 0, 0), (.putfield 46, 3, 1, 7), (.iconst 1, 1, 1, 0), (.ireturn, 1, 0, 0)]
/-- Course.letOut(I)Z -/
def kc_35 : List (Nat × List pb_El) := [(0, kb_35_0), (35, kb_35_35), (37, kb_35_37)]
def kb_36_0 : List pb_El := [(.aload_n 0, 1, 0, 0), (.getfield 36, 3, 1, 4), (.bipush 99, 2, 99, 0), (.if_icmp .lt 5, 3, 11, 0), (.iconst 0, 1, 0, 0), (.ireturn, 1, 0, 0)]
def kb_36_11 : List pb_El := [(.aload_n 0, 1, 0, 0), (.dup, 1, 0, 0), (.getfield 36, 3, 1, 4), (.iconst 1, 1, 1, 0), (.iadd, 1, 0, 0), (.putfield 36, 3, 1, 4), (.iconst 0, 1, 0, 0), (.istore_n 1, 1, 0, 0)]
def kb_36_23 : List pb_El := [(.iload_n 1, 1, 0, 0), (.aload_n 0, 1, 0, 0), (.getfield 12, 3, 1, 0), (.getfield 125, 3, 0, 1), (.if_icmp .ge 58, 3, 89, 0), (.aload_n 0, 1, 0, 0), (.getfield 12, 3, 1, 0), (.getfield 128, 3, 0, 4), (.iload_n 1, 1, 0, 0), (.bipush 99, 2, 99, 0), (.aload_n 0, 1, 0, 0), (.getfield 12, 3, 1, 0), (.getfield 128, 3, 0, 4), (.iload_n 1, 1, 0, 0), (.iaload, 1, 0, 0), (.iconst 1, 1, 1, 0), (.iadd, 1, 0, 0), (.invokestatic 113, 3, 1004, 2), (.iastore, 1, 0, 0), (.aload_n 0, 1, 0, 0), (.getfield 12, 3, 1, 0), (.getfield 122, 3, 0, 5), (.iload_n 1, 1, 0, 0), (.iconst 0, 1, 0, 0), (.aload_n 0, 1, 0, 0), (.getfield 12, 3, 1, 0), (.getfield 122, 3, 0, 5), (.iload_n 1, 1, 0, 0), (.iaload, 1, 0, 0), (.iconst 1, 1, 1, 0), (.isub, 1, 0, 0), (.invokestatic 131, 3, 1003, 2), (.iastore, 1, 0, 0), (.iinc 1 1, 3, 1, 0), (.goto (-63), 3, 23, 0)]
def kb_36_89 : List pb_El := [(.iconst 1, 1, 1, 0), (.ireturn, 1, 0, 0)]
/-- Course.passYear()Z -/
def kc_36 : List (Nat × List pb_El) := [(0, kb_36_0), (11, kb_36_11), (23, kb_36_23), (89, kb_36_89)]
def kb_37_0 : List pb_El := [(.iload_n 1, 1, 0, 0), (.ifCond .ge 5, 3, 6, 0), (.iconst (-1), 1, 1, 1), (.ireturn, 1, 0, 0)]
def kb_37_6 : List pb_El := [(.iload_n 1, 1, 0, 0), (.bipush 100, 2, 100, 0), (.if_icmp .lt 15, 3, 24, 0), (.aload_n 0, 1, 0, 0), (.getfield 12, 3, 1, 0), (.iload_n 1, 1, 0, 0), (.bipush 100, 2, 100, 0), (.isub, 1, 0, 0), (.invokevirtual 134, 3, 6, 2), (.ireturn, 1, 0, 0)]
def kb_37_24 : List pb_El := [(.iload_n 1, 1, 0, 0), (.bipush 10, 2, 10, 0), (.irem, 1, 0, 0), (.istore_n 2, 1, 0, 0), (.iload_n 1, 1, 0, 0), (.bipush 10, 2, 10, 0), (.idiv, 1, 0, 0), (.tableswitch 171 0 5 #[39, 45, 70, 95, 120, 145], 39, 0, 0)]
def kb_37_72 : List pb_El := [(.aload_n 0, 1, 0, 0), (.iload_n 2, 1, 0, 0), (.invokevirtual 137, 3, 38, 2), (.ireturn, 1, 0, 0)]
def kb_37_78 : List pb_El := [(.aload_n 0, 1, 0, 0), (.getfield 12, 3, 1, 0), (.iload_n 2, 1, 0, 0), (.invokevirtual 98, 3, 3, 2), (.ifCond .eq 15, 3, 101, 0), (.aload_n 0, 1, 0, 0), (.getfield 12, 3, 1, 0), (.getfield 101, 3, 0, 3), (.iload_n 2, 1, 0, 0), (.iaload, 1, 0, 0), (.goto 4, 3, 102, 0)]
def kb_37_101 : List pb_El := [(.iconst (-1), 1, 1, 1)]
def kb_37_102 : List pb_El := [(.ireturn, 1, 0, 0)]
def kb_37_103 : List pb_El := [(.aload_n 0, 1, 0, 0), (.getfield 12, 3, 1, 0), (.iload_n 2, 1, 0, 0), (.invokevirtual 104, 3, 4, 2), (.ifCond .eq 15, 3, 126, 0), (.aload_n 0, 1, 0, 0), (.getfield 12, 3, 1, 0), (.getfield 128, 3, 0, 4), (.iload_n 2, 1, 0, 0), (.iaload, 1, 0, 0), (.goto 4, 3, 127, 0)]
def kb_37_126 : List pb_El := [(.iconst (-1), 1, 1, 1)]
def kb_37_127 : List pb_El := [(.ireturn, 1, 0, 0)]
def kb_37_128 : List pb_El := [(.aload_n 0, 1, 0, 0), (.getfield 12, 3, 1, 0), (.iload_n 2, 1, 0, 0), (.invokevirtual 104, 3, 4, 2), (.ifCond .eq 15, 3, 151, 0), (.aload_n 0, 1, 0, 0), (.getfield 12, 3, 1, 0), (.getfield 122, 3, 0, 5), (.iload_n 2, 1, 0, 0), (.iaload, 1, 0, 0), (.goto 4, 3, 152, 0)]
def kb_37_151 : List pb_El := [(.iconst (-1), 1, 1, 1)]
def kb_37_152 : List pb_El := [(.ireturn, 1, 0, 0)]
def kb_37_153 : List pb_El := [(.aload_n 0, 1, 0, 0), (.getfield 12, 3, 1, 0), (.iload_n 2, 1, 0, 0), (.invokevirtual 104, 3, 4, 2), (.ifCond .eq 15, 3, 176, 0), (.aload_n 0, 1, 0, 0), (.getfield 12, 3, 1, 0), (.getfield 107, 3, 0, 6), (.iload_n 2, 1, 0, 0), (.iaload, 1, 0, 0), (.goto 4, 3, 177, 0)]
def kb_37_176 : List pb_El := [(.iconst (-1), 1, 1, 1)]
def kb_37_177 : List pb_El := [(.ireturn, 1, 0, 0)]
def kb_37_178 : List pb_El := [(.aload_n 0, 1, 0, 0), (.getfield 12, 3, 1, 0), (.iload_n 2, 1, 0, 0), (.invokevirtual 104, 3, 4, 2), (.ifCond .eq 16, 3, 202, 0), (.aload_n 0, 1, 0, 0), (.getfield 12, 3, 1, 0), (.iload_n 2, 1, 0, 0), (.bipush 63, 2, 63, 0), (.invokevirtual 140, 3, 11, 3), (.goto 4, 3, 203, 0)]
def kb_37_202 : List pb_El := [(.iconst (-1), 1, 1, 1)]
def kb_37_203 : List pb_El := [(.ireturn, 1, 0, 0)]
def kb_37_204 : List pb_El := [(.iconst (-1), 1, 1, 1), (.ireturn, 1, 0, 0)]
/-- Course.told(I)I -/
def kc_37 : List (Nat × List pb_El) := [(0, kb_37_0), (6, kb_37_6), (24, kb_37_24), (72, kb_37_72), (78, kb_37_78), (101, kb_37_101), (102, kb_37_102), (103, kb_37_103), (126, kb_37_126), (127, kb_37_127), (128, kb_37_128), (151, kb_37_151), (152, kb_37_152), (153, kb_37_153), (176, kb_37_176), (177, kb_37_177), (178, kb_37_178), (202, kb_37_202), (203, kb_37_203), (204, kb_37_204)]
def kb_38_0 : List pb_El := [(.iload_n 1, 1, 0, 0), (.tableswitch 99 0 5 #[39, 44, 49, 54, 73, 94], 39, 0, 0)]
def kb_38_40 : List pb_El := [(.aload_n 0, 1, 0, 0), (.getfield 36, 3, 1, 4), (.ireturn, 1, 0, 0)]
def kb_38_45 : List pb_El := [(.aload_n 0, 1, 0, 0), (.getfield 40, 3, 1, 5), (.ireturn, 1, 0, 0)]
def kb_38_50 : List pb_El := [(.aload_n 0, 1, 0, 0), (.getfield 43, 3, 1, 6), (.ireturn, 1, 0, 0)]
def kb_38_55 : List pb_El := [(.aload_n 0, 1, 0, 0), (.getfield 21, 3, 1, 1), (.aload_n 0, 1, 0, 0), (.getfield 12, 3, 1, 0), (.invokevirtual 87, 3, 76, 2), (.aload_n 0, 1, 0, 0), (.getfield 21, 3, 1, 1), (.getfield 143, 3, 5, 0), (.ireturn, 1, 0, 0)]
def kb_38_74 : List pb_El := [(.aload_n 0, 1, 0, 0), (.getfield 21, 3, 1, 1), (.aload_n 0, 1, 0, 0), (.getfield 12, 3, 1, 0), (.invokevirtual 87, 3, 76, 2), (.aload_n 0, 1, 0, 0), (.getfield 21, 3, 1, 1), (.bipush 63, 2, 63, 0), (.invokevirtual 90, 3, 77, 2), (.ireturn, 1, 0, 0)]
def kb_38_95 : List pb_El := [(.aload_n 0, 1, 0, 0), (.getfield 46, 3, 1, 7), (.ireturn, 1, 0, 0)]
def kb_38_100 : List pb_El := [(.iconst (-1), 1, 1, 1), (.ireturn, 1, 0, 0)]
/-- Course.toldOfAll(I)I -/
def kc_38 : List (Nat × List pb_El) := [(0, kb_38_0), (40, kb_38_40), (45, kb_38_45), (50, kb_38_50), (55, kb_38_55), (74, kb_38_74), (95, kb_38_95), (100, kb_38_100)]
def kb_39_0 : List pb_El := [(.aload_n 0, 1, 0, 0), (.iload_n 1, 1, 0, 0), (.putfield 146, 3, 1, 8), (.iconst 0, 1, 0, 0), (.istore_n 3, 1, 0, 0)]
def kb_39_7 : List pb_El := [(.iload_n 3, 1, 0, 0), (.iload_n 2, 1, 0, 0), (.if_icmp .ge 13, 3, 22, 0), (.aload_n 0, 1, 0, 0), (.invokevirtual 149, 3, 41, 1), (.iinc 3 1, 3, 1, 0), (.goto (-12), 3, 7, 0)]
def kb_39_22 : List pb_El := [(.return_, 1, 0, 0)]
/-- Course.draw(II)V -/
def kc_39 : List (Nat × List pb_El) := [(0, kb_39_0), (7, kb_39_7), (22, kb_39_22)]
def kb_40_0 : List pb_El := [(.aload_n 0, 1, 0, 0), (.aload_n 0, 1, 0, 0), (.getfield 146, 3, 1, 8), (.ldc 152, 2, 0, 0), (.imul, 1, 0, 0), (.sipush 12345, 3, 12345, 0), (.iadd, 1, 0, 0), (.putfield 146, 3, 1, 8), (.iload_n 1, 1, 0, 0), (.ifCond .le 15, 3, 31, 0), (.aload_n 0, 1, 0, 0), (.getfield 146, 3, 1, 8), (.bipush 16, 2, 16, 0), (.iushr, 1, 0, 0), (.iload_n 1, 1, 0, 0), (.irem, 1, 0, 0), (.goto 4, 3, 32, 0)]
def kb_40_31 : List pb_El := [(.iconst 0, 1, 0, 0)]
def kb_40_32 : List pb_El := [(.ireturn, 1, 0, 0)]
/-- Course.below(I)I -/
def kc_40 : List (Nat × List pb_El) := [(0, kb_40_0), (31, kb_40_31), (32, kb_40_32)]
def kb_41_0 : List pb_El := [(.aload_n 0, 1, 0, 0), (.getstatic 153, 3, 1, 0), (.arraylength, 1, 12, 0), (.invokevirtual 156, 3, 40, 2), (.istore_n 1, 1, 0, 0), (.getstatic 153, 3, 1, 0), (.iload_n 1, 1, 0, 0), (.iaload, 1, 0, 0), (.istore_n 2, 1, 0, 0), (.iload_n 2, 1, 0, 0), (.ifCond .eq 8, 3, 24, 0), (.iload_n 2, 1, 0, 0), (.iconst 1, 1, 1, 0), (.if_icmp .ne 7, 3, 28, 0)]
def kb_41_24 : List pb_El := [(.iconst 1, 1, 1, 0), (.goto 4, 3, 29, 0)]
def kb_41_28 : List pb_El := [(.iconst 0, 1, 0, 0)]
def kb_41_29 : List pb_El := [(.istore_n 3, 1, 0, 0), (.iload_n 2, 1, 0, 0), (.iconst 5, 1, 5, 0), (.if_icmp .eq 9, 3, 41, 0), (.iload_n 2, 1, 0, 0), (.bipush 6, 2, 6, 0), (.if_icmp .ne 7, 3, 45, 0)]
def kb_41_41 : List pb_El := [(.iconst 1, 1, 1, 0), (.goto 4, 3, 46, 0)]
def kb_41_45 : List pb_El := [(.iconst 0, 1, 0, 0)]
def kb_41_46 : List pb_El := [(.istore 4, 2, 0, 0), (.iload_n 3, 1, 0, 0), (.ifCond .eq 13, 3, 62, 0), (.aload_n 0, 1, 0, 0), (.getfield 12, 3, 1, 0), (.getfield 159, 3, 0, 0), (.goto 10, 3, 69, 0)]
def kb_41_62 : List pb_El := [(.aload_n 0, 1, 0, 0), (.getfield 12, 3, 1, 0), (.getfield 125, 3, 0, 1)]
def kb_41_69 : List pb_El := [(.istore 5, 2, 0, 0), (.iload 4, 2, 0, 0), (.ifCond .eq 15, 3, 88, 0), (.aload_n 0, 1, 0, 0), (.iload_n 2, 1, 0, 0), (.iconst (-1), 1, 1, 1), (.iconst (-1), 1, 1, 1), (.iconst (-1), 1, 1, 1), (.invokevirtual 67, 3, 31, 5), (.pop, 1, 0, 0), (.goto 63, 3, 148, 0)]
def kb_41_88 : List pb_El := [(.iload 5, 2, 0, 0), (.ifCond .le 58, 3, 148, 0), (.aload_n 0, 1, 0, 0), (.iload 5, 2, 0, 0), (.invokevirtual 156, 3, 40, 2), (.istore 6, 2, 0, 0), (.iload_n 2, 1, 0, 0), (.iconst 4, 1, 4, 0), (.if_icmp .ne 7, 3, 110, 0), (.iconst (-1), 1, 1, 1), (.goto 9, 3, 116, 0)]
def kb_41_110 : List pb_El := [(.aload_n 0, 1, 0, 0), (.bipush 6, 2, 6, 0), (.invokevirtual 156, 3, 40, 2)]
def kb_41_116 : List pb_El := [(.istore 7, 2, 0, 0), (.iload_n 2, 1, 0, 0), (.iconst 3, 1, 3, 0), (.if_icmp .ne 13, 3, 133, 0), (.iconst 1, 1, 1, 0), (.aload_n 0, 1, 0, 0), (.iconst 3, 1, 3, 0), (.invokevirtual 156, 3, 40, 2), (.iadd, 1, 0, 0), (.goto 4, 3, 134, 0)]
def kb_41_133 : List pb_El := [(.iconst (-1), 1, 1, 1)]
def kb_41_134 : List pb_El := [(.istore 8, 2, 0, 0), (.aload_n 0, 1, 0, 0), (.iload_n 2, 1, 0, 0), (.iload 6, 2, 0, 0), (.iload 7, 2, 0, 0), (.iload 8, 2, 0, 0), (.invokevirtual 67, 3, 31, 5), (.pop, 1, 0, 0)]
def kb_41_148 : List pb_El := [(.return_, 1, 0, 0)]
/-- Course.drawDeed()V -/
def kc_41 : List (Nat × List pb_El) := [(0, kb_41_0), (24, kb_41_24), (28, kb_41_28), (29, kb_41_29), (41, kb_41_41), (45, kb_41_45), (46, kb_41_46), (62, kb_41_62), (69, kb_41_69), (88, kb_41_88), (110, kb_41_110), (116, kb_41_116), (133, kb_41_133), (134, kb_41_134), (148, kb_41_148)]
def kb_42_0 : List pb_El := [(.iconst 0, 1, 0, 0), (.istore_n 2, 1, 0, 0)]
def kb_42_2 : List pb_El := [(.iload_n 2, 1, 0, 0), (.aload_n 1, 1, 0, 0), (.getfield 162, 3, 4, 0), (.if_icmp .ge 29, 3, 36, 0), (.aload_n 0, 1, 0, 0), (.aload_n 1, 1, 0, 0), (.iload_n 2, 1, 0, 0), (.invokevirtual 49, 3, 30, 3), (.ifCond .eq 20, 3, 36, 0), (.aload_n 0, 1, 0, 0), (.getfield 40, 3, 1, 5), (.bipush 6, 2, 6, 0), (.if_icmp .eq 5, 3, 30, 0), (.iload_n 2, 1, 0, 0), (.ireturn, 1, 0, 0)]
def kb_42_30 : List pb_El := [(.iinc 2 1, 3, 1, 0), (.goto (-31), 3, 2, 0)]
def kb_42_36 : List pb_El := [(.iconst (-1), 1, 1, 1), (.ireturn, 1, 0, 0)]
/-- Course.firstReign(LPointedBench$Lines;)I -/
def kc_42 : List (Nat × List pb_El) := [(0, kb_42_0), (2, kb_42_2), (30, kb_42_30), (36, kb_42_36)]
def kb_43_0 : List pb_El := [(.iconst 0, 1, 0, 0), (.istore_n 2, 1, 0, 0), (.aload_n 0, 1, 0, 0), (.getfield 40, 3, 1, 5), (.istore_n 3, 1, 0, 0), (.iconst 0, 1, 0, 0), (.istore 4, 2, 0, 0)]
def kb_43_10 : List pb_El := [(.iload 4, 2, 0, 0), (.aload_n 1, 1, 0, 0), (.getfield 162, 3, 4, 0), (.if_icmp .ge 35, 3, 51, 0), (.aload_n 0, 1, 0, 0), (.aload_n 1, 1, 0, 0), (.iload 4, 2, 0, 0), (.invokevirtual 49, 3, 30, 3), (.ifCond .eq 25, 3, 51, 0), (.aload_n 0, 1, 0, 0), (.getfield 40, 3, 1, 5), (.iload_n 3, 1, 0, 0), (.if_icmp .eq 11, 3, 45, 0), (.iinc 2 1, 3, 1, 0), (.aload_n 0, 1, 0, 0), (.getfield 40, 3, 1, 5), (.istore_n 3, 1, 0, 0)]
def kb_43_45 : List pb_El := [(.iinc 4 1, 3, 1, 0), (.goto (-38), 3, 10, 0)]
def kb_43_51 : List pb_El := [(.iload_n 2, 1, 0, 0), (.ireturn, 1, 0, 0)]
/-- Course.changes(LPointedBench$Lines;)I -/
def kc_43 : List (Nat × List pb_El) := [(0, kb_43_0), (10, kb_43_10), (45, kb_43_45), (51, kb_43_51)]
def kb_44_0 : List pb_El := [(.aload_n 0, 1, 0, 0), (.getfield 25, 3, 1, 2), (.iconst 0, 1, 0, 0), (.invokestatic 165, 3, 306, 2), (.iconst 0, 1, 0, 0), (.istore_n 2, 1, 0, 0)]
def kb_44_10 : List pb_El := [(.iload_n 2, 1, 0, 0), (.aload_n 1, 1, 0, 0), (.getfield 162, 3, 4, 0), (.if_icmp .ge 51, 3, 66, 0), (.aload_n 0, 1, 0, 0), (.aload_n 1, 1, 0, 0), (.iload_n 2, 1, 0, 0), (.invokevirtual 49, 3, 30, 3), (.ifCond .eq 42, 3, 66, 0), (.aload_n 1, 1, 0, 0), (.getfield 53, 3, 4, 1), (.iload_n 2, 1, 0, 0), (.iaload, 1, 0, 0), (.bipush 6, 2, 6, 0), (.if_icmp .ne 25, 3, 60, 0), (.aload_n 0, 1, 0, 0), (.getfield 40, 3, 1, 5), (.bipush 6, 2, 6, 0), (.if_icmp .eq 16, 3, 60, 0), (.aload_n 0, 1, 0, 0), (.getfield 25, 3, 1, 2), (.aload_n 0, 1, 0, 0), (.getfield 40, 3, 1, 5), (.dup2, 1, 0, 0), (.iaload, 1, 0, 0), (.iconst 1, 1, 1, 0), (.iadd, 1, 0, 0), (.iastore, 1, 0, 0)]
def kb_44_60 : List pb_El := [(.iinc 2 1, 3, 1, 0), (.goto (-53), 3, 10, 0)]
def kb_44_66 : List pb_El := [(.aload_n 0, 1, 0, 0), (.invokevirtual 171, 3, 46, 1), (.ireturn, 1, 0, 0)]
/-- Course.longestReign(LPointedBench$Lines;)I -/
def kc_44 : List (Nat × List pb_El) := [(0, kb_44_0), (10, kb_44_10), (60, kb_44_60), (66, kb_44_66)]
def kb_45_0 : List pb_El := [(.aload_n 0, 1, 0, 0), (.getfield 25, 3, 1, 2), (.iconst 0, 1, 0, 0), (.invokestatic 165, 3, 306, 2), (.iconst 0, 1, 0, 0), (.istore_n 2, 1, 0, 0)]
def kb_45_10 : List pb_El := [(.iload_n 2, 1, 0, 0), (.aload_n 0, 1, 0, 0), (.getfield 12, 3, 1, 0), (.getfield 125, 3, 0, 1), (.if_icmp .ge 25, 3, 43, 0), (.aload_n 0, 1, 0, 0), (.getfield 29, 3, 1, 3), (.iload_n 2, 1, 0, 0), (.aload_n 0, 1, 0, 0), (.getfield 12, 3, 1, 0), (.iload_n 2, 1, 0, 0), (.bipush 63, 2, 63, 0), (.invokevirtual 140, 3, 11, 3), (.iastore, 1, 0, 0), (.iinc 2 1, 3, 1, 0), (.goto (-30), 3, 10, 0)]
def kb_45_43 : List pb_El := [(.iconst 0, 1, 0, 0), (.istore_n 2, 1, 0, 0)]
def kb_45_45 : List pb_El := [(.iload_n 2, 1, 0, 0), (.aload_n 1, 1, 0, 0), (.getfield 162, 3, 4, 0), (.if_icmp .ge 78, 3, 128, 0), (.aload_n 0, 1, 0, 0), (.aload_n 1, 1, 0, 0), (.iload_n 2, 1, 0, 0), (.invokevirtual 49, 3, 30, 3), (.ifCond .eq 69, 3, 128, 0), (.iconst 0, 1, 0, 0), (.istore_n 3, 1, 0, 0)]
def kb_45_64 : List pb_El := [(.iload_n 3, 1, 0, 0), (.aload_n 0, 1, 0, 0), (.getfield 12, 3, 1, 0), (.getfield 125, 3, 0, 1), (.if_icmp .ge 50, 3, 122, 0), (.aload_n 0, 1, 0, 0), (.getfield 12, 3, 1, 0), (.iload_n 3, 1, 0, 0), (.bipush 63, 2, 63, 0), (.invokevirtual 140, 3, 11, 3), (.istore 4, 2, 0, 0), (.iload 4, 2, 0, 0), (.aload_n 0, 1, 0, 0), (.getfield 29, 3, 1, 3), (.iload_n 3, 1, 0, 0), (.iaload, 1, 0, 0), (.if_icmp .eq 21, 3, 116, 0), (.aload_n 0, 1, 0, 0), (.getfield 29, 3, 1, 3), (.iload_n 3, 1, 0, 0), (.iload 4, 2, 0, 0), (.iastore, 1, 0, 0), (.aload_n 0, 1, 0, 0), (.getfield 25, 3, 1, 2), (.iload_n 3, 1, 0, 0), (.dup2, 1, 0, 0), (.iaload, 1, 0, 0), (.iconst 1, 1, 1, 0), (.iadd, 1, 0, 0), (.iastore, 1, 0, 0)]
def kb_45_116 : List pb_El := [(.iinc 3 1, 3, 1, 0), (.goto (-55), 3, 64, 0)]
def kb_45_122 : List pb_El := [(.iinc 2 1, 3, 1, 0), (.goto (-80), 3, 45, 0)]
def kb_45_128 : List pb_El := [(.aload_n 0, 1, 0, 0), (.invokevirtual 171, 3, 46, 1), (.ireturn, 1, 0, 0)]
/-- Course.mostFickle(LPointedBench$Lines;)I -/
def kc_45 : List (Nat × List pb_El) := [(0, kb_45_0), (10, kb_45_10), (43, kb_45_43), (45, kb_45_45), (64, kb_45_64), (116, kb_45_116), (122, kb_45_122), (128, kb_45_128)]
def kb_46_0 : List pb_El := [(.iconst 0, 1, 0, 0), (.istore_n 1, 1, 0, 0), (.iconst (-1), 1, 1, 1), (.istore_n 2, 1, 0, 0), (.iconst 0, 1, 0, 0), (.istore_n 3, 1, 0, 0)]
def kb_46_6 : List pb_El := [(.iload_n 3, 1, 0, 0), (.bipush 6, 2, 6, 0), (.if_icmp .ge 28, 3, 37, 0), (.aload_n 0, 1, 0, 0), (.getfield 25, 3, 1, 2), (.iload_n 3, 1, 0, 0), (.iaload, 1, 0, 0), (.iload_n 1, 1, 0, 0), (.if_icmp .le 12, 3, 31, 0), (.aload_n 0, 1, 0, 0), (.getfield 25, 3, 1, 2), (.iload_n 3, 1, 0, 0), (.iaload, 1, 0, 0), (.istore_n 1, 1, 0, 0), (.iload_n 3, 1, 0, 0), (.istore_n 2, 1, 0, 0)]
def kb_46_31 : List pb_El := [(.iinc 3 1, 3, 1, 0), (.goto (-28), 3, 6, 0)]
def kb_46_37 : List pb_El := [(.iload_n 2, 1, 0, 0), (.ireturn, 1, 0, 0)]
/-- Course.mostTimes()I -/
def kc_46 : List (Nat × List pb_El) := [(0, kb_46_0), (6, kb_46_6), (31, kb_46_31), (37, kb_46_37)]
def kb_47_0 : List pb_El := [(.iconst 0, 1, 0, 0), (.istore_n 3, 1, 0, 0), (.aload_n 0, 1, 0, 0), (.iload_n 2, 1, 0, 0), (.invokevirtual 175, 3, 48, 2), (.istore 4, 2, 0, 0), (.iconst 0, 1, 0, 0), (.istore 5, 2, 0, 0)]
def kb_47_12 : List pb_El := [(.iload 5, 2, 0, 0), (.aload_n 1, 1, 0, 0), (.getfield 162, 3, 4, 0), (.if_icmp .ge 51, 3, 69, 0), (.aload_n 0, 1, 0, 0), (.aload_n 1, 1, 0, 0), (.iload 5, 2, 0, 0), (.invokevirtual 49, 3, 30, 3), (.ifCond .eq 41, 3, 69, 0), (.aload_n 0, 1, 0, 0), (.iload_n 2, 1, 0, 0), (.invokevirtual 175, 3, 48, 2), (.istore 6, 2, 0, 0), (.aload_n 1, 1, 0, 0), (.getfield 53, 3, 4, 1), (.iload 5, 2, 0, 0), (.iaload, 1, 0, 0), (.iload_n 2, 1, 0, 0), (.if_icmp .ne 13, 3, 59, 0), (.iload 6, 2, 0, 0), (.iload 4, 2, 0, 0), (.if_icmp .le 6, 3, 59, 0), (.iinc 3 1, 3, 1, 0)]
def kb_47_59 : List pb_El := [(.iload 6, 2, 0, 0), (.istore 4, 2, 0, 0), (.iinc 5 1, 3, 1, 0), (.goto (-54), 3, 12, 0)]
def kb_47_69 : List pb_El := [(.iload_n 3, 1, 0, 0), (.ireturn, 1, 0, 0)]
/-- Course.gains(LPointedBench$Lines;I)I -/
def kc_47 : List (Nat × List pb_El) := [(0, kb_47_0), (12, kb_47_12), (59, kb_47_59), (69, kb_47_69)]
def kb_48_0 : List pb_El := [(.iconst 0, 1, 0, 0), (.istore_n 2, 1, 0, 0), (.iconst 0, 1, 0, 0), (.istore_n 3, 1, 0, 0)]
def kb_48_4 : List pb_El := [(.iload_n 3, 1, 0, 0), (.bipush 6, 2, 6, 0), (.if_icmp .ge 40, 3, 47, 0), (.iload_n 2, 1, 0, 0), (.iload_n 1, 1, 0, 0), (.ifCond .ne 15, 3, 27, 0), (.aload_n 0, 1, 0, 0), (.getfield 12, 3, 1, 0), (.getfield 101, 3, 0, 3), (.iload_n 3, 1, 0, 0), (.iaload, 1, 0, 0), (.goto 12, 3, 36, 0)]
def kb_48_27 : List pb_El := [(.aload_n 0, 1, 0, 0), (.getfield 12, 3, 1, 0), (.getfield 107, 3, 0, 6), (.iload_n 3, 1, 0, 0), (.iaload, 1, 0, 0)]
def kb_48_36 : List pb_El := [(.invokestatic 178, 3, 305, 1), (.iadd, 1, 0, 0), (.istore_n 2, 1, 0, 0), (.iinc 3 1, 3, 1, 0), (.goto (-40), 3, 4, 0)]
def kb_48_47 : List pb_El := [(.iload_n 2, 1, 0, 0), (.ireturn, 1, 0, 0)]
/-- Course.bitsOf(I)I -/
def kc_48 : List (Nat × List pb_El) := [(0, kb_48_0), (4, kb_48_4), (27, kb_48_27), (36, kb_48_36), (47, kb_48_47)]
def kb_49_0 : List pb_El := [(.aload_n 0, 1, 0, 0), (.invokespecial 3, 3, 1001, 1), (.aload_n 0, 1, 0, 0), (.bipush 6, 2, 6, 0), (.newarray .int, 2, 12, 0), (.putfield 9, 3, 2, 0), (.aload_n 0, 1, 0, 0), (.bipush 36, 2, 36, 0), (.newarray .int, 2, 12, 0), (.putfield 15, 3, 2, 2), (.aload_n 0, 1, 0, 0), (.bipush 6, 2, 6, 0), (.newarray .int, 2, 12, 0), (.putfield 18, 3, 2, 3), (.return_, 1, 0, 0)]
/-- Duels.<init>()V -/
def kc_49 : List (Nat × List pb_El) := [(0, kb_49_0)]
def kb_50_0 : List pb_El := [(.aload_n 0, 1, 0, 0), (.aload_n 1, 1, 0, 0), (.getfield 21, 3, 0, 0), (.putfield 27, 3, 2, 1), (.aload_n 0, 1, 0, 0), (.getfield 15, 3, 2, 2), (.iconst 0, 1, 0, 0), (.invokestatic 28, 3, 306, 2), (.iconst 0, 1, 0, 0), (.istore_n 2, 1, 0, 0)]
def kb_50_18 : List pb_El := [(.iload_n 2, 1, 0, 0), (.aload_n 1, 1, 0, 0), (.getfield 34, 3, 0, 1), (.if_icmp .ge 23, 3, 46, 0), (.aload_n 1, 1, 0, 0), (.iload_n 2, 1, 0, 0), (.invokevirtual 37, 3, 7, 2), (.ifCond .eq 9, 3, 40, 0), (.aload_n 0, 1, 0, 0), (.aload_n 1, 1, 0, 0), (.iload_n 2, 1, 0, 0), (.invokevirtual 41, 3, 51, 3)]
def kb_50_40 : List pb_El := [(.iinc 2 1, 3, 1, 0), (.goto (-25), 3, 18, 0)]
def kb_50_46 : List pb_El := [(.return_, 1, 0, 0)]
/-- Duels.hold(LPointedBench$County;)V -/
def kc_50 : List (Nat × List pb_El) := [(0, kb_50_0), (18, kb_50_18), (40, kb_50_40), (46, kb_50_46)]
def kb_51_0 : List pb_El := [(.iconst 0, 1, 0, 0), (.istore_n 3, 1, 0, 0)]
def kb_51_2 : List pb_El := [(.iload_n 3, 1, 0, 0), (.aload_n 0, 1, 0, 0), (.getfield 27, 3, 2, 1), (.if_icmp .ge 21, 3, 28, 0), (.aload_n 0, 1, 0, 0), (.getfield 18, 3, 2, 3), (.iload_n 3, 1, 0, 0), (.aload_n 1, 1, 0, 0), (.iload_n 2, 1, 0, 0), (.iload_n 3, 1, 0, 0), (.invokevirtual 45, 3, 9, 3), (.iastore, 1, 0, 0), (.iinc 3 1, 3, 1, 0), (.goto (-23), 3, 2, 0)]
def kb_51_28 : List pb_El := [(.iconst 0, 1, 0, 0), (.istore_n 3, 1, 0, 0)]
def kb_51_30 : List pb_El := [(.iload_n 3, 1, 0, 0), (.aload_n 0, 1, 0, 0), (.getfield 27, 3, 2, 1), (.if_icmp .ge 59, 3, 94, 0), (.iconst 0, 1, 0, 0), (.istore 4, 2, 0, 0)]
def kb_51_41 : List pb_El := [(.iload 4, 2, 0, 0), (.aload_n 0, 1, 0, 0), (.getfield 27, 3, 2, 1), (.if_icmp .ge 41, 3, 88, 0), (.aload_n 0, 1, 0, 0), (.getfield 18, 3, 2, 3), (.iload_n 3, 1, 0, 0), (.iaload, 1, 0, 0), (.aload_n 0, 1, 0, 0), (.getfield 18, 3, 2, 3), (.iload 4, 2, 0, 0), (.iaload, 1, 0, 0), (.if_icmp .le 19, 3, 82, 0), (.aload_n 0, 1, 0, 0), (.getfield 15, 3, 2, 2), (.iload_n 3, 1, 0, 0), (.bipush 6, 2, 6, 0), (.imul, 1, 0, 0), (.iload 4, 2, 0, 0), (.iadd, 1, 0, 0), (.dup2, 1, 0, 0), (.iaload, 1, 0, 0), (.iconst 1, 1, 1, 0), (.iadd, 1, 0, 0), (.iastore, 1, 0, 0)]
def kb_51_82 : List pb_El := [(.iinc 4 1, 3, 1, 0), (.goto (-44), 3, 41, 0)]
def kb_51_88 : List pb_El := [(.iinc 3 1, 3, 1, 0), (.goto (-61), 3, 30, 0)]
def kb_51_94 : List pb_El := [(.return_, 1, 0, 0)]
/-- Duels.holdBefore(LPointedBench$County;I)V -/
def kc_51 : List (Nat × List pb_El) := [(0, kb_51_0), (2, kb_51_2), (28, kb_51_28), (30, kb_51_30), (41, kb_51_41), (82, kb_51_82), (88, kb_51_88), (94, kb_51_94)]
def kb_52_0 : List pb_El := [(.aload_n 0, 1, 0, 0), (.getfield 15, 3, 2, 2), (.iload_n 1, 1, 0, 0), (.bipush 6, 2, 6, 0), (.imul, 1, 0, 0), (.iload_n 2, 1, 0, 0), (.iadd, 1, 0, 0), (.iaload, 1, 0, 0), (.ireturn, 1, 0, 0)]
/-- Duels.won(II)I -/
def kc_52 : List (Nat × List pb_El) := [(0, kb_52_0)]
def kb_53_0 : List pb_El := [(.iconst 0, 1, 0, 0), (.istore_n 1, 1, 0, 0)]
def kb_53_2 : List pb_El := [(.iload_n 1, 1, 0, 0), (.aload_n 0, 1, 0, 0), (.getfield 27, 3, 2, 1), (.if_icmp .ge 57, 3, 64, 0), (.iconst 0, 1, 0, 0), (.istore_n 2, 1, 0, 0), (.iconst 0, 1, 0, 0), (.istore_n 3, 1, 0, 0)]
def kb_53_14 : List pb_El := [(.iload_n 3, 1, 0, 0), (.aload_n 0, 1, 0, 0), (.getfield 27, 3, 2, 1), (.if_icmp .ge 27, 3, 46, 0), (.aload_n 0, 1, 0, 0), (.iload_n 1, 1, 0, 0), (.iload_n 3, 1, 0, 0), (.invokevirtual 49, 3, 52, 3), (.aload_n 0, 1, 0, 0), (.iload_n 3, 1, 0, 0), (.iload_n 1, 1, 0, 0), (.invokevirtual 49, 3, 52, 3), (.if_icmp .le 6, 3, 40, 0), (.iinc 2 1, 3, 1, 0)]
def kb_53_40 : List pb_El := [(.iinc 3 1, 3, 1, 0), (.goto (-29), 3, 14, 0)]
def kb_53_46 : List pb_El := [(.iload_n 2, 1, 0, 0), (.aload_n 0, 1, 0, 0), (.getfield 27, 3, 2, 1), (.iconst 1, 1, 1, 0), (.isub, 1, 0, 0), (.if_icmp .ne 5, 3, 58, 0), (.iload_n 1, 1, 0, 0), (.ireturn, 1, 0, 0)]
def kb_53_58 : List pb_El := [(.iinc 1 1, 3, 1, 0), (.goto (-59), 3, 2, 0)]
def kb_53_64 : List pb_El := [(.iconst (-1), 1, 1, 1), (.ireturn, 1, 0, 0)]
/-- Duels.winner()I -/
def kc_53 : List (Nat × List pb_El) := [(0, kb_53_0), (2, kb_53_2), (14, kb_53_14), (40, kb_53_40), (46, kb_53_46), (58, kb_53_58), (64, kb_53_64)]
def kb_54_0 : List pb_El := [(.iload_n 1, 1, 0, 0), (.ifCond .lt 11, 3, 12, 0), (.iload_n 1, 1, 0, 0), (.aload_n 0, 1, 0, 0), (.getfield 27, 3, 2, 1), (.if_icmp .lt 6, 3, 15, 0)]
def kb_54_12 : List pb_El := [(.bipush (-2), 2, 2, 1), (.ireturn, 1, 0, 0)]
def kb_54_15 : List pb_El := [(.iconst 0, 1, 0, 0), (.istore_n 2, 1, 0, 0), (.iconst 0, 1, 0, 0), (.istore_n 3, 1, 0, 0)]
def kb_54_19 : List pb_El := [(.iload_n 3, 1, 0, 0), (.aload_n 0, 1, 0, 0), (.getfield 27, 3, 2, 1), (.if_icmp .ge 18, 3, 42, 0), (.iload_n 2, 1, 0, 0), (.aload_n 0, 1, 0, 0), (.iload_n 1, 1, 0, 0), (.iload_n 3, 1, 0, 0), (.invokevirtual 49, 3, 52, 3), (.iadd, 1, 0, 0), (.istore_n 2, 1, 0, 0), (.iinc 3 1, 3, 1, 0), (.goto (-20), 3, 19, 0)]
def kb_54_42 : List pb_El := [(.iload_n 2, 1, 0, 0), (.ireturn, 1, 0, 0)]
/-- Duels.scoreOf(I)I -/
def kc_54 : List (Nat × List pb_El) := [(0, kb_54_0), (12, kb_54_12), (15, kb_54_15), (19, kb_54_19), (42, kb_54_42)]
def kb_55_0 : List pb_El := [(.iconst 0, 1, 0, 0), (.istore_n 2, 1, 0, 0)]
def kb_55_2 : List pb_El := [(.iload_n 2, 1, 0, 0), (.bipush 6, 2, 6, 0), (.if_icmp .ge 16, 3, 21, 0), (.aload_n 0, 1, 0, 0), (.getfield 9, 3, 2, 0), (.iload_n 2, 1, 0, 0), (.iload_n 2, 1, 0, 0), (.iastore, 1, 0, 0), (.iinc 2 1, 3, 1, 0), (.goto (-16), 3, 2, 0)]
def kb_55_21 : List pb_El := [(.iconst 0, 1, 0, 0), (.istore_n 2, 1, 0, 0)]
def kb_55_23 : List pb_El := [(.iload_n 2, 1, 0, 0), (.sipush 720, 3, 720, 0), (.if_icmp .ge 28, 3, 55, 0), (.aload_n 0, 1, 0, 0), (.invokevirtual 52, 3, 56, 1), (.iload_n 1, 1, 0, 0), (.if_icmp .ne 5, 3, 40, 0), (.iconst 1, 1, 1, 0), (.ireturn, 1, 0, 0)]
def kb_55_40 : List pb_El := [(.aload_n 0, 1, 0, 0), (.invokevirtual 56, 3, 57, 1), (.ifCond .ne 5, 3, 49, 0), (.iconst 0, 1, 0, 0), (.ireturn, 1, 0, 0)]
def kb_55_49 : List pb_El := [(.iinc 2 1, 3, 1, 0), (.goto (-29), 3, 23, 0)]
def kb_55_55 : List pb_El := [(.iconst 0, 1, 0, 0), (.ireturn, 1, 0, 0)]
/-- Duels.findRow(I)Z -/
def kc_55 : List (Nat × List pb_El) := [(0, kb_55_0), (2, kb_55_2), (21, kb_55_21), (23, kb_55_23), (40, kb_55_40), (49, kb_55_49), (55, kb_55_55)]
def kb_56_0 : List pb_El := [(.aload_n 0, 1, 0, 0), (.getfield 9, 3, 2, 0), (.iconst 0, 1, 0, 0), (.iaload, 1, 0, 0), (.istore_n 1, 1, 0, 0), (.iconst 1, 1, 1, 0), (.istore_n 2, 1, 0, 0)]
def kb_56_9 : List pb_El := [(.iload_n 2, 1, 0, 0), (.aload_n 0, 1, 0, 0), (.getfield 27, 3, 2, 1), (.if_icmp .ge 41, 3, 55, 0), (.aload_n 0, 1, 0, 0), (.aload_n 0, 1, 0, 0), (.getfield 9, 3, 2, 0), (.iload_n 2, 1, 0, 0), (.iaload, 1, 0, 0), (.iload_n 1, 1, 0, 0), (.invokevirtual 49, 3, 52, 3), (.aload_n 0, 1, 0, 0), (.iload_n 1, 1, 0, 0), (.aload_n 0, 1, 0, 0), (.getfield 9, 3, 2, 0), (.iload_n 2, 1, 0, 0), (.iaload, 1, 0, 0), (.invokevirtual 49, 3, 52, 3), (.if_icmp .le 10, 3, 49, 0), (.aload_n 0, 1, 0, 0), (.getfield 9, 3, 2, 0), (.iload_n 2, 1, 0, 0), (.iaload, 1, 0, 0), (.istore_n 1, 1, 0, 0)]
def kb_56_49 : List pb_El := [(.iinc 2 1, 3, 1, 0), (.goto (-43), 3, 9, 0)]
def kb_56_55 : List pb_El := [(.iload_n 1, 1, 0, 0), (.ireturn, 1, 0, 0)]
/-- Duels.staysOfRow()I -/
def kc_56 : List (Nat × List pb_El) := [(0, kb_56_0), (9, kb_56_9), (49, kb_56_49), (55, kb_56_55)]
def kb_57_0 : List pb_El := [(.aload_n 0, 1, 0, 0), (.getfield 27, 3, 2, 1), (.iconst 2, 1, 2, 0), (.isub, 1, 0, 0), (.istore_n 1, 1, 0, 0)]
def kb_57_7 : List pb_El := [(.iload_n 1, 1, 0, 0), (.ifCond .lt 26, 3, 34, 0), (.aload_n 0, 1, 0, 0), (.getfield 9, 3, 2, 0), (.iload_n 1, 1, 0, 0), (.iaload, 1, 0, 0), (.aload_n 0, 1, 0, 0), (.getfield 9, 3, 2, 0), (.iload_n 1, 1, 0, 0), (.iconst 1, 1, 1, 0), (.iadd, 1, 0, 0), (.iaload, 1, 0, 0), (.if_icmp .le 9, 3, 34, 0), (.iinc 1 (-1), 3, 1, 1), (.goto (-24), 3, 7, 0)]
def kb_57_34 : List pb_El := [(.iload_n 1, 1, 0, 0), (.ifCond .ge 5, 3, 40, 0), (.iconst 0, 1, 0, 0), (.ireturn, 1, 0, 0)]
def kb_57_40 : List pb_El := [(.aload_n 0, 1, 0, 0), (.getfield 27, 3, 2, 1), (.iconst 1, 1, 1, 0), (.isub, 1, 0, 0), (.istore_n 2, 1, 0, 0)]
def kb_57_47 : List pb_El := [(.iload_n 2, 1, 0, 0), (.iload_n 1, 1, 0, 0), (.if_icmp .le 24, 3, 73, 0), (.aload_n 0, 1, 0, 0), (.getfield 9, 3, 2, 0), (.iload_n 2, 1, 0, 0), (.iaload, 1, 0, 0), (.aload_n 0, 1, 0, 0), (.getfield 9, 3, 2, 0), (.iload_n 1, 1, 0, 0), (.iaload, 1, 0, 0), (.if_icmp .ge 9, 3, 73, 0), (.iinc 2 (-1), 3, 1, 1), (.goto (-23), 3, 47, 0)]
def kb_57_73 : List pb_El := [(.aload_n 0, 1, 0, 0), (.iload_n 1, 1, 0, 0), (.iload_n 2, 1, 0, 0), (.invokevirtual 60, 3, 58, 3), (.iload_n 1, 1, 0, 0), (.iconst 1, 1, 1, 0), (.iadd, 1, 0, 0), (.istore_n 3, 1, 0, 0), (.aload_n 0, 1, 0, 0), (.getfield 27, 3, 2, 1), (.iconst 1, 1, 1, 0), (.isub, 1, 0, 0), (.istore 4, 2, 0, 0)]
def kb_57_91 : List pb_El := [(.iload 4, 2, 0, 0), (.iload_n 3, 1, 0, 0), (.if_icmp .le 19, 3, 113, 0), (.aload_n 0, 1, 0, 0), (.iload_n 3, 1, 0, 0), (.iload 4, 2, 0, 0), (.invokevirtual 60, 3, 58, 3), (.iinc 3 1, 3, 1, 0), (.iinc 4 (-1), 3, 1, 1), (.goto (-19), 3, 91, 0)]
def kb_57_113 : List pb_El := [(.iconst 1, 1, 1, 0), (.ireturn, 1, 0, 0)]
/-- Duels.nextRow()Z -/
def kc_57 : List (Nat × List pb_El) := [(0, kb_57_0), (7, kb_57_7), (34, kb_57_34), (40, kb_57_40), (47, kb_57_47), (73, kb_57_73), (91, kb_57_91), (113, kb_57_113)]
def kb_58_0 : List pb_El := [(.aload_n 0, 1, 0, 0), (.getfield 9, 3, 2, 0), (.iload_n 1, 1, 0, 0), (.iaload, 1, 0, 0), (.istore_n 3, 1, 0, 0), (.aload_n 0, 1, 0, 0), (.getfield 9, 3, 2, 0), (.iload_n 1, 1, 0, 0), (.aload_n 0, 1, 0, 0), (.getfield 9, 3, 2, 0), (.iload_n 2, 1, 0, 0), (.iaload, 1, 0, 0), (.iastore, 1, 0, 0), (.aload_n 0, 1, 0, 0), (.getfield 9, 3, 2, 0), (.iload_n 2, 1, 0, 0), (.iload_n 3, 1, 0, 0), (.iastore, 1, 0, 0), (.return_, 1, 0, 0)]
/-- Duels.swap(II)V -/
def kc_58 : List (Nat × List pb_El) := [(0, kb_58_0)]
def kb_59_0 : List pb_El := [(.aload_n 0, 1, 0, 0), (.invokespecial 3, 3, 1001, 1), (.aload_n 0, 1, 0, 0), (.sipush 729, 3, 729, 0), (.newarray .int, 2, 12, 0), (.putfield 11, 3, 3, 1), (.aload_n 0, 1, 0, 0), (.sipush 729, 3, 729, 0), (.newarray .int, 2, 12, 0), (.putfield 15, 3, 3, 2), (.aload_n 0, 1, 0, 0), (.bipush 6, 2, 6, 0), (.newarray .int, 2, 12, 0), (.putfield 18, 3, 3, 3), (.aload_n 0, 1, 0, 0), (.bipush 36, 2, 36, 0), (.newarray .int, 2, 12, 0), (.putfield 21, 3, 3, 4), (.iconst 1, 1, 1, 0), (.istore_n 1, 1, 0, 0)]
def kb_59_40 : List pb_El := [(.iload_n 1, 1, 0, 0), (.sipush 729, 3, 729, 0), (.if_icmp .ge 33, 3, 77, 0), (.aload_n 0, 1, 0, 0), (.getfield 15, 3, 3, 2), (.iload_n 1, 1, 0, 0), (.aload_n 0, 1, 0, 0), (.getfield 15, 3, 3, 2), (.iload_n 1, 1, 0, 0), (.iconst 3, 1, 3, 0), (.idiv, 1, 0, 0), (.iaload, 1, 0, 0), (.iconst 1, 1, 1, 0), (.ishr, 1, 0, 0), (.getstatic 24, 3, 2, 0), (.iload_n 1, 1, 0, 0), (.iconst 3, 1, 3, 0), (.irem, 1, 0, 0), (.iaload, 1, 0, 0), (.ior, 1, 0, 0), (.iastore, 1, 0, 0), (.iinc 1 1, 3, 1, 0), (.goto (-34), 3, 40, 0)]
def kb_59_77 : List pb_El := [(.return_, 1, 0, 0)]
/-- Likings.<init>()V -/
def kc_59 : List (Nat × List pb_El) := [(0, kb_59_0), (40, kb_59_40), (77, kb_59_77)]
def kb_60_0 : List pb_El := [(.aload_n 0, 1, 0, 0), (.iconst 0, 1, 0, 0), (.putfield 27, 3, 3, 0), (.iconst 0, 1, 0, 0), (.istore_n 2, 1, 0, 0)]
def kb_60_7 : List pb_El := [(.iload_n 2, 1, 0, 0), (.sipush 729, 3, 729, 0), (.if_icmp .ge 38, 3, 49, 0), (.aload_n 0, 1, 0, 0), (.aload_n 1, 1, 0, 0), (.iload_n 2, 1, 0, 0), (.invokevirtual 31, 3, 61, 3), (.ifCond .eq 23, 3, 43, 0), (.aload_n 0, 1, 0, 0), (.getfield 11, 3, 3, 1), (.aload_n 0, 1, 0, 0), (.getfield 27, 3, 3, 0), (.iload_n 2, 1, 0, 0), (.iastore, 1, 0, 0), (.aload_n 0, 1, 0, 0), (.dup, 1, 0, 0), (.getfield 27, 3, 3, 0), (.iconst 1, 1, 1, 0), (.iadd, 1, 0, 0), (.putfield 27, 3, 3, 0)]
def kb_60_43 : List pb_El := [(.iinc 2 1, 3, 1, 0), (.goto (-39), 3, 7, 0)]
def kb_60_49 : List pb_El := [(.return_, 1, 0, 0)]
/-- Likings.gather(LPointedBench$Lines;)V -/
def kc_60 : List (Nat × List pb_El) := [(0, kb_60_0), (7, kb_60_7), (43, kb_60_43), (49, kb_60_49)]
def kb_61_0 : List pb_El := [(.iconst 0, 1, 0, 0), (.istore_n 3, 1, 0, 0)]
def kb_61_2 : List pb_El := [(.iload_n 3, 1, 0, 0), (.aload_n 1, 1, 0, 0), (.getfield 35, 3, 4, 0), (.if_icmp .ge 62, 3, 69, 0), (.aload_n 0, 1, 0, 0), (.iload_n 2, 1, 0, 0), (.aload_n 1, 1, 0, 0), (.getfield 40, 3, 4, 2), (.iload_n 3, 1, 0, 0), (.iaload, 1, 0, 0), (.invokevirtual 43, 3, 62, 3), (.aload_n 0, 1, 0, 0), (.iload_n 2, 1, 0, 0), (.aload_n 1, 1, 0, 0), (.getfield 47, 3, 4, 3), (.iload_n 3, 1, 0, 0), (.iaload, 1, 0, 0), (.invokevirtual 43, 3, 62, 3), (.if_icmp .le 7, 3, 39, 0), (.iconst 1, 1, 1, 0), (.goto 4, 3, 40, 0)]
def kb_61_39 : List pb_El := [(.iconst 0, 1, 0, 0)]
def kb_61_40 : List pb_El := [(.istore 4, 2, 0, 0), (.iload 4, 2, 0, 0), (.aload_n 1, 1, 0, 0), (.getfield 50, 3, 4, 1), (.iload_n 3, 1, 0, 0), (.iaload, 1, 0, 0), (.ifCond .ne 7, 3, 57, 0), (.iconst 1, 1, 1, 0), (.goto 4, 3, 58, 0)]
def kb_61_57 : List pb_El := [(.iconst 0, 1, 0, 0)]
def kb_61_58 : List pb_El := [(.if_icmp .eq 5, 3, 63, 0), (.iconst 0, 1, 0, 0), (.ireturn, 1, 0, 0)]
def kb_61_63 : List pb_El := [(.iinc 3 1, 3, 1, 0), (.goto (-64), 3, 2, 0)]
def kb_61_69 : List pb_El := [(.iconst 1, 1, 1, 0), (.ireturn, 1, 0, 0)]
/-- Likings.fitsAll(LPointedBench$Lines;I)Z -/
def kc_61 : List (Nat × List pb_El) := [(0, kb_61_0), (2, kb_61_2), (39, kb_61_39), (40, kb_61_40), (57, kb_61_57), (58, kb_61_58), (63, kb_61_63), (69, kb_61_69)]
def kb_62_0 : List pb_El := [(.aload_n 0, 1, 0, 0), (.getfield 15, 3, 3, 2), (.iload_n 1, 1, 0, 0), (.iaload, 1, 0, 0), (.iload_n 2, 1, 0, 0), (.iload_n 2, 1, 0, 0), (.bipush 6, 2, 6, 0), (.ishl, 1, 0, 0), (.ior, 1, 0, 0), (.iand, 1, 0, 0), (.invokestatic 53, 3, 305, 1), (.ireturn, 1, 0, 0)]
/-- Likings.sumOf(II)I -/
def kc_62 : List (Nat × List pb_El) := [(0, kb_62_0)]
def kb_63_0 : List pb_El := [(.iload_n 1, 1, 0, 0), (.ifCond .ne 8, 3, 9, 0), (.aload_n 0, 1, 0, 0), (.getfield 27, 3, 3, 0), (.ireturn, 1, 0, 0)]
def kb_63_9 : List pb_El := [(.iload_n 1, 1, 0, 0), (.iconst 1, 1, 1, 0), (.if_icmp .ne 8, 3, 19, 0), (.aload_n 0, 1, 0, 0), (.invokevirtual 59, 3, 65, 1), (.ireturn, 1, 0, 0)]
def kb_63_19 : List pb_El := [(.iload_n 1, 1, 0, 0), (.iconst 2, 1, 2, 0), (.if_icmp .lt 17, 3, 38, 0), (.iload_n 1, 1, 0, 0), (.bipush 8, 2, 8, 0), (.if_icmp .ge 11, 3, 38, 0), (.aload_n 0, 1, 0, 0), (.iload_n 1, 1, 0, 0), (.iconst 2, 1, 2, 0), (.isub, 1, 0, 0), (.invokevirtual 63, 3, 64, 2), (.ireturn, 1, 0, 0)]
def kb_63_38 : List pb_El := [(.iload_n 1, 1, 0, 0), (.bipush 10, 2, 10, 0), (.if_icmp .lt 26, 3, 67, 0), (.iload_n 1, 1, 0, 0), (.bipush 10, 2, 10, 0), (.isub, 1, 0, 0), (.aload_n 0, 1, 0, 0), (.getfield 27, 3, 3, 0), (.if_icmp .ge 15, 3, 67, 0), (.aload_n 0, 1, 0, 0), (.getfield 11, 3, 3, 1), (.iload_n 1, 1, 0, 0), (.bipush 10, 2, 10, 0), (.isub, 1, 0, 0), (.iaload, 1, 0, 0), (.goto 5, 3, 69, 0)]
def kb_63_67 : List pb_El := [(.bipush (-2), 2, 2, 1)]
def kb_63_69 : List pb_El := [(.ireturn, 1, 0, 0)]
/-- Likings.told(I)I -/
def kc_63 : List (Nat × List pb_El) := [(0, kb_63_0), (9, kb_63_9), (19, kb_63_19), (38, kb_63_38), (67, kb_63_67), (69, kb_63_69)]
def kb_64_0 : List pb_El := [(.iconst (-1), 1, 1, 1), (.istore_n 2, 1, 0, 0), (.iconst 0, 1, 0, 0), (.istore_n 3, 1, 0, 0)]
def kb_64_4 : List pb_El := [(.iload_n 3, 1, 0, 0), (.aload_n 0, 1, 0, 0), (.getfield 27, 3, 3, 0), (.if_icmp .ge 40, 3, 49, 0), (.aload_n 0, 1, 0, 0), (.aload_n 0, 1, 0, 0), (.getfield 11, 3, 3, 1), (.iload_n 3, 1, 0, 0), (.iaload, 1, 0, 0), (.iconst 1, 1, 1, 0), (.iload_n 1, 1, 0, 0), (.ishl, 1, 0, 0), (.invokevirtual 43, 3, 62, 3), (.istore 4, 2, 0, 0), (.iload_n 2, 1, 0, 0), (.iconst (-1), 1, 1, 1), (.if_icmp .eq 11, 3, 40, 0), (.iload 4, 2, 0, 0), (.iload_n 2, 1, 0, 0), (.if_icmp .eq 5, 3, 40, 0), (.iconst (-1), 1, 1, 1), (.ireturn, 1, 0, 0)]
def kb_64_40 : List pb_El := [(.iload 4, 2, 0, 0), (.istore_n 2, 1, 0, 0), (.iinc 3 1, 3, 1, 0), (.goto (-42), 3, 4, 0)]
def kb_64_49 : List pb_El := [(.iload_n 2, 1, 0, 0), (.ireturn, 1, 0, 0)]
/-- Likings.sureOf(I)I -/
def kc_64 : List (Nat × List pb_El) := [(0, kb_64_0), (4, kb_64_4), (40, kb_64_40), (49, kb_64_49)]
def kb_65_0 : List pb_El := [(.aload_n 0, 1, 0, 0), (.invokevirtual 66, 3, 66, 1), (.aload_n 0, 1, 0, 0), (.getfield 27, 3, 3, 0), (.iconst 1, 1, 1, 0), (.iadd, 1, 0, 0), (.istore_n 1, 1, 0, 0), (.iconst (-1), 1, 1, 1), (.istore_n 2, 1, 0, 0), (.iconst 0, 1, 0, 0), (.istore_n 3, 1, 0, 0)]
def kb_65_15 : List pb_El := [(.iload_n 3, 1, 0, 0), (.bipush 36, 2, 36, 0), (.if_icmp .ge 71, 3, 89, 0), (.aload_n 0, 1, 0, 0), (.getfield 27, 3, 3, 0), (.ifCond .le 64, 3, 89, 0), (.aload_n 0, 1, 0, 0), (.getfield 21, 3, 3, 4), (.iload_n 3, 1, 0, 0), (.iaload, 1, 0, 0), (.aload_n 0, 1, 0, 0), (.getfield 27, 3, 3, 0), (.aload_n 0, 1, 0, 0), (.getfield 21, 3, 3, 4), (.iload_n 3, 1, 0, 0), (.iaload, 1, 0, 0), (.isub, 1, 0, 0), (.invokestatic 69, 3, 1003, 2), (.istore 4, 2, 0, 0), (.iload_n 3, 1, 0, 0), (.bipush 6, 2, 6, 0), (.idiv, 1, 0, 0), (.iload_n 3, 1, 0, 0), (.bipush 6, 2, 6, 0), (.irem, 1, 0, 0), (.if_icmp .eq 25, 3, 83, 0), (.iload 4, 2, 0, 0), (.iload_n 1, 1, 0, 0), (.if_icmp .ge 19, 3, 83, 0), (.iload 4, 2, 0, 0), (.istore_n 1, 1, 0, 0), (.bipush 10, 2, 10, 0), (.iload_n 3, 1, 0, 0), (.bipush 6, 2, 6, 0), (.idiv, 1, 0, 0), (.imul, 1, 0, 0), (.iload_n 3, 1, 0, 0), (.bipush 6, 2, 6, 0), (.irem, 1, 0, 0), (.iadd, 1, 0, 0), (.istore_n 2, 1, 0, 0)]
def kb_65_83 : List pb_El := [(.iinc 3 1, 3, 1, 0), (.goto (-71), 3, 15, 0)]
def kb_65_89 : List pb_El := [(.iload_n 2, 1, 0, 0), (.ireturn, 1, 0, 0)]
/-- Likings.bestQuestion()I -/
def kc_65 : List (Nat × List pb_El) := [(0, kb_65_0), (15, kb_65_15), (83, kb_65_83), (89, kb_65_89)]
def kb_66_0 : List pb_El := [(.aload_n 0, 1, 0, 0), (.getfield 21, 3, 3, 4), (.iconst 0, 1, 0, 0), (.invokestatic 74, 3, 306, 2), (.iconst 0, 1, 0, 0), (.istore_n 1, 1, 0, 0)]
def kb_66_10 : List pb_El := [(.iload_n 1, 1, 0, 0), (.aload_n 0, 1, 0, 0), (.getfield 27, 3, 3, 0), (.if_icmp .ge 132, 3, 147, 0), (.iconst 0, 1, 0, 0), (.istore_n 2, 1, 0, 0)]
def kb_66_20 : List pb_El := [(.iload_n 2, 1, 0, 0), (.bipush 6, 2, 6, 0), (.if_icmp .ge 28, 3, 51, 0), (.aload_n 0, 1, 0, 0), (.getfield 18, 3, 3, 3), (.iload_n 2, 1, 0, 0), (.aload_n 0, 1, 0, 0), (.aload_n 0, 1, 0, 0), (.getfield 11, 3, 3, 1), (.iload_n 1, 1, 0, 0), (.iaload, 1, 0, 0), (.iconst 1, 1, 1, 0), (.iload_n 2, 1, 0, 0), (.ishl, 1, 0, 0), (.invokevirtual 43, 3, 62, 3), (.iastore, 1, 0, 0), (.iinc 2 1, 3, 1, 0), (.goto (-28), 3, 20, 0)]
def kb_66_51 : List pb_El := [(.iconst 1, 1, 1, 0), (.istore_n 2, 1, 0, 0)]
def kb_66_53 : List pb_El := [(.iload_n 2, 1, 0, 0), (.bipush 6, 2, 6, 0), (.if_icmp .ge 85, 3, 141, 0), (.iconst 0, 1, 0, 0), (.istore_n 3, 1, 0, 0)]
def kb_66_61 : List pb_El := [(.iload_n 3, 1, 0, 0), (.iload_n 2, 1, 0, 0), (.if_icmp .ge 72, 3, 135, 0), (.aload_n 0, 1, 0, 0), (.getfield 18, 3, 3, 3), (.iload_n 2, 1, 0, 0), (.iaload, 1, 0, 0), (.aload_n 0, 1, 0, 0), (.getfield 18, 3, 3, 3), (.iload_n 3, 1, 0, 0), (.iaload, 1, 0, 0), (.if_icmp .le 21, 3, 99, 0), (.aload_n 0, 1, 0, 0), (.getfield 21, 3, 3, 4), (.iload_n 2, 1, 0, 0), (.bipush 6, 2, 6, 0), (.imul, 1, 0, 0), (.iload_n 3, 1, 0, 0), (.iadd, 1, 0, 0), (.dup2, 1, 0, 0), (.iaload, 1, 0, 0), (.iconst 1, 1, 1, 0), (.iadd, 1, 0, 0), (.iastore, 1, 0, 0), (.goto 33, 3, 129, 0)]
def kb_66_99 : List pb_El := [(.aload_n 0, 1, 0, 0), (.getfield 18, 3, 3, 3), (.iload_n 2, 1, 0, 0), (.iaload, 1, 0, 0), (.aload_n 0, 1, 0, 0), (.getfield 18, 3, 3, 3), (.iload_n 3, 1, 0, 0), (.iaload, 1, 0, 0), (.if_icmp .ge 18, 3, 129, 0), (.aload_n 0, 1, 0, 0), (.getfield 21, 3, 3, 4), (.iload_n 3, 1, 0, 0), (.bipush 6, 2, 6, 0), (.imul, 1, 0, 0), (.iload_n 2, 1, 0, 0), (.iadd, 1, 0, 0), (.dup2, 1, 0, 0), (.iaload, 1, 0, 0), (.iconst 1, 1, 1, 0), (.iadd, 1, 0, 0), (.iastore, 1, 0, 0)]
def kb_66_129 : List pb_El := [(.iinc 3 1, 3, 1, 0), (.goto (-71), 3, 61, 0)]
def kb_66_135 : List pb_El := [(.iinc 2 1, 3, 1, 0), (.goto (-85), 3, 53, 0)]
def kb_66_141 : List pb_El := [(.iinc 1 1, 3, 1, 0), (.goto (-134), 3, 10, 0)]
def kb_66_147 : List pb_El := [(.return_, 1, 0, 0)]
/-- Likings.compareAll()V -/
def kc_66 : List (Nat × List pb_El) := [(0, kb_66_0), (10, kb_66_10), (20, kb_66_20), (51, kb_66_51), (53, kb_66_53), (61, kb_66_61), (99, kb_66_99), (129, kb_66_129), (135, kb_66_135), (141, kb_66_141), (147, kb_66_147)]
def kb_67_0 : List pb_El := [(.iconst 0, 1, 0, 0), (.istore_n 3, 1, 0, 0), (.iconst 0, 1, 0, 0), (.istore 4, 2, 0, 0)]
def kb_67_5 : List pb_El := [(.iload 4, 2, 0, 0), (.aload_n 0, 1, 0, 0), (.getfield 27, 3, 3, 0), (.if_icmp .ge 39, 3, 50, 0), (.aload_n 0, 1, 0, 0), (.aload_n 0, 1, 0, 0), (.getfield 11, 3, 3, 1), (.iload 4, 2, 0, 0), (.iaload, 1, 0, 0), (.iload_n 1, 1, 0, 0), (.invokevirtual 43, 3, 62, 3), (.aload_n 0, 1, 0, 0), (.aload_n 0, 1, 0, 0), (.getfield 11, 3, 3, 1), (.iload 4, 2, 0, 0), (.iaload, 1, 0, 0), (.iload_n 2, 1, 0, 0), (.invokevirtual 43, 3, 62, 3), (.if_icmp .le 6, 3, 44, 0), (.iinc 3 1, 3, 1, 0)]
def kb_67_44 : List pb_El := [(.iinc 4 1, 3, 1, 0), (.goto (-42), 3, 5, 0)]
def kb_67_50 : List pb_El := [(.iload_n 3, 1, 0, 0), (.ireturn, 1, 0, 0)]
/-- Likings.preferring(II)I -/
def kc_67 : List (Nat × List pb_El) := [(0, kb_67_0), (5, kb_67_5), (44, kb_67_44), (50, kb_67_50)]
def kb_68_0 : List pb_El := [(.iconst (-1), 1, 1, 1), (.istore_n 1, 1, 0, 0), (.iconst 0, 1, 0, 0), (.istore_n 2, 1, 0, 0)]
def kb_68_4 : List pb_El := [(.iload_n 2, 1, 0, 0), (.aload_n 0, 1, 0, 0), (.getfield 27, 3, 3, 0), (.if_icmp .ge 37, 3, 46, 0), (.aload_n 0, 1, 0, 0), (.aload_n 0, 1, 0, 0), (.getfield 11, 3, 3, 1), (.iload_n 2, 1, 0, 0), (.iaload, 1, 0, 0), (.bipush 63, 2, 63, 0), (.invokevirtual 43, 3, 62, 3), (.istore_n 3, 1, 0, 0), (.iload_n 1, 1, 0, 0), (.iconst (-1), 1, 1, 1), (.if_icmp .ne 7, 3, 34, 0), (.iload_n 3, 1, 0, 0), (.goto 8, 3, 39, 0)]
def kb_68_34 : List pb_El := [(.iload_n 1, 1, 0, 0), (.iload_n 3, 1, 0, 0), (.invokestatic 80, 3, 1004, 2)]
def kb_68_39 : List pb_El := [(.istore_n 1, 1, 0, 0), (.iinc 2 1, 3, 1, 0), (.goto (-39), 3, 4, 0)]
def kb_68_46 : List pb_El := [(.iload_n 1, 1, 0, 0), (.ireturn, 1, 0, 0)]
/-- Likings.leastSum()I -/
def kc_68 : List (Nat × List pb_El) := [(0, kb_68_0), (4, kb_68_4), (34, kb_68_34), (39, kb_68_39), (46, kb_68_46)]
def kb_69_0 : List pb_El := [(.iconst (-1), 1, 1, 1), (.istore_n 1, 1, 0, 0), (.iconst 0, 1, 0, 0), (.istore_n 2, 1, 0, 0)]
def kb_69_4 : List pb_El := [(.iload_n 2, 1, 0, 0), (.aload_n 0, 1, 0, 0), (.getfield 27, 3, 3, 0), (.if_icmp .ge 26, 3, 35, 0), (.iload_n 1, 1, 0, 0), (.aload_n 0, 1, 0, 0), (.aload_n 0, 1, 0, 0), (.getfield 11, 3, 3, 1), (.iload_n 2, 1, 0, 0), (.iaload, 1, 0, 0), (.bipush 63, 2, 63, 0), (.invokevirtual 43, 3, 62, 3), (.invokestatic 69, 3, 1003, 2), (.istore_n 1, 1, 0, 0), (.iinc 2 1, 3, 1, 0), (.goto (-28), 3, 4, 0)]
def kb_69_35 : List pb_El := [(.iload_n 1, 1, 0, 0), (.ireturn, 1, 0, 0)]
/-- Likings.greatestSum()I -/
def kc_69 : List (Nat × List pb_El) := [(0, kb_69_0), (4, kb_69_4), (35, kb_69_35)]
def kb_70_0 : List pb_El := [(.aload_n 0, 1, 0, 0), (.invokespecial 3, 3, 1001, 1), (.iconst 0, 1, 0, 0), (.iload_n 1, 1, 0, 0), (.invokestatic 9, 3, 1003, 2), (.istore_n 3, 1, 0, 0), (.aload_n 0, 1, 0, 0), (.iload_n 3, 1, 0, 0), (.newarray .int, 2, 12, 0), (.putfield 15, 3, 4, 1), (.aload_n 0, 1, 0, 0), (.iload_n 3, 1, 0, 0), (.newarray .int, 2, 12, 0), (.putfield 21, 3, 4, 2), (.aload_n 0, 1, 0, 0), (.iload_n 3, 1, 0, 0), (.newarray .int, 2, 12, 0), (.putfield 24, 3, 4, 3), (.aload_n 0, 1, 0, 0), (.iload_n 3, 1, 0, 0), (.newarray .int, 2, 12, 0), (.putfield 27, 3, 4, 4), (.aload_n 0, 1, 0, 0), (.iload_n 2, 1, 0, 0), (.putfield 30, 3, 4, 5), (.return_, 1, 0, 0)]
/-- Lines.<init>(II)V -/
def kc_70 : List (Nat × List pb_El) := [(0, kb_70_0)]
def kb_71_0 : List pb_El := [(.aload_n 0, 1, 0, 0), (.getfield 34, 3, 4, 0), (.aload_n 0, 1, 0, 0), (.getfield 15, 3, 4, 1), (.arraylength, 1, 12, 0), (.if_icmp .lt 7, 3, 16, 0), (.iconst 1, 1, 1, 0), (.goto 4, 3, 17, 0)]
def kb_71_16 : List pb_El := [(.iconst 0, 1, 0, 0)]
def kb_71_17 : List pb_El := [(.ireturn, 1, 0, 0)]
/-- Lines.isFull()Z -/
def kc_71 : List (Nat × List pb_El) := [(0, kb_71_0), (16, kb_71_16), (17, kb_71_17)]
def kb_72_0 : List pb_El := [(.aload_n 0, 1, 0, 0), (.invokevirtual 37, 3, 71, 1), (.ifCond .ne 54, 3, 58, 0), (.aload_n 0, 1, 0, 0), (.getfield 15, 3, 4, 1), (.aload_n 0, 1, 0, 0), (.getfield 34, 3, 4, 0), (.iload_n 1, 1, 0, 0), (.iastore, 1, 0, 0), (.aload_n 0, 1, 0, 0), (.getfield 21, 3, 4, 2), (.aload_n 0, 1, 0, 0), (.getfield 34, 3, 4, 0), (.iload_n 2, 1, 0, 0), (.iastore, 1, 0, 0), (.aload_n 0, 1, 0, 0), (.getfield 24, 3, 4, 3), (.aload_n 0, 1, 0, 0), (.getfield 34, 3, 4, 0), (.iload_n 3, 1, 0, 0), (.iastore, 1, 0, 0), (.aload_n 0, 1, 0, 0), (.getfield 27, 3, 4, 4), (.aload_n 0, 1, 0, 0), (.getfield 34, 3, 4, 0), (.iload 4, 2, 0, 0), (.iastore, 1, 0, 0), (.aload_n 0, 1, 0, 0), (.dup, 1, 0, 0), (.getfield 34, 3, 4, 0), (.iconst 1, 1, 1, 0), (.iadd, 1, 0, 0), (.putfield 34, 3, 4, 0)]
def kb_72_58 : List pb_El := [(.return_, 1, 0, 0)]
/-- Lines.add(IIII)V -/
def kc_72 : List (Nat × List pb_El) := [(0, kb_72_0), (58, kb_72_58)]
def kb_73_0 : List pb_El := [(.aload_n 0, 1, 0, 0), (.aload_n 1, 1, 0, 0), (.getfield 34, 3, 4, 0), (.putfield 34, 3, 4, 0), (.aload_n 1, 1, 0, 0), (.getfield 15, 3, 4, 1), (.iconst 0, 1, 0, 0), (.aload_n 0, 1, 0, 0), (.getfield 15, 3, 4, 1), (.iconst 0, 1, 0, 0), (.aload_n 0, 1, 0, 0), (.getfield 34, 3, 4, 0), (.invokestatic 41, 3, 1000, 12), (.aload_n 1, 1, 0, 0), (.getfield 21, 3, 4, 2), (.iconst 0, 1, 0, 0), (.aload_n 0, 1, 0, 0), (.getfield 21, 3, 4, 2), (.iconst 0, 1, 0, 0), (.aload_n 0, 1, 0, 0), (.getfield 34, 3, 4, 0), (.invokestatic 41, 3, 1000, 12), (.aload_n 1, 1, 0, 0), (.getfield 24, 3, 4, 3), (.iconst 0, 1, 0, 0), (.aload_n 0, 1, 0, 0), (.getfield 24, 3, 4, 3), (.iconst 0, 1, 0, 0), (.aload_n 0, 1, 0, 0), (.getfield 34, 3, 4, 0), (.invokestatic 41, 3, 1000, 12), (.aload_n 1, 1, 0, 0), (.getfield 27, 3, 4, 4), (.iconst 0, 1, 0, 0), (.aload_n 0, 1, 0, 0), (.getfield 27, 3, 4, 4), (.iconst 0, 1, 0, 0), (.aload_n 0, 1, 0, 0), (.getfield 34, 3, 4, 0), (.invokestatic 41, 3, 1000, 12), (.return_, 1, 0, 0)]
/-- Lines.take(LPointedBench$Lines;)V -/
def kc_73 : List (Nat × List pb_El) := [(0, kb_73_0)]
def kb_74_0 : List pb_El := [(.iload_n 1, 1, 0, 0), (.iconst (-1), 1, 1, 1), (.if_icmp .ne 12, 3, 14, 0), (.iload_n 2, 1, 0, 0), (.ifCond .ne 8, 3, 14, 0), (.aload_n 0, 1, 0, 0), (.getfield 34, 3, 4, 0), (.ireturn, 1, 0, 0)]
def kb_74_14 : List pb_El := [(.iload_n 1, 1, 0, 0), (.ifCond .lt 19, 3, 34, 0), (.iload_n 1, 1, 0, 0), (.aload_n 0, 1, 0, 0), (.getfield 34, 3, 4, 0), (.if_icmp .ge 11, 3, 34, 0), (.iload_n 2, 1, 0, 0), (.aload_n 0, 1, 0, 0), (.getfield 30, 3, 4, 5), (.if_icmp .le 6, 3, 37, 0)]
def kb_74_34 : List pb_El := [(.bipush (-2), 2, 2, 1), (.ireturn, 1, 0, 0)]
def kb_74_37 : List pb_El := [(.iload_n 2, 1, 0, 0), (.tableswitch 58 0 3 #[30, 37, 44, 51], 30, 0, 0)]
def kb_74_68 : List pb_El := [(.aload_n 0, 1, 0, 0), (.getfield 15, 3, 4, 1), (.iload_n 1, 1, 0, 0), (.iaload, 1, 0, 0), (.ireturn, 1, 0, 0)]
def kb_74_75 : List pb_El := [(.aload_n 0, 1, 0, 0), (.getfield 21, 3, 4, 2), (.iload_n 1, 1, 0, 0), (.iaload, 1, 0, 0), (.ireturn, 1, 0, 0)]
def kb_74_82 : List pb_El := [(.aload_n 0, 1, 0, 0), (.getfield 24, 3, 4, 3), (.iload_n 1, 1, 0, 0), (.iaload, 1, 0, 0), (.ireturn, 1, 0, 0)]
def kb_74_89 : List pb_El := [(.aload_n 0, 1, 0, 0), (.getfield 27, 3, 4, 4), (.iload_n 1, 1, 0, 0), (.iaload, 1, 0, 0), (.ireturn, 1, 0, 0)]
def kb_74_96 : List pb_El := [(.bipush (-2), 2, 2, 1), (.ireturn, 1, 0, 0)]
/-- Lines.told(II)I -/
def kc_74 : List (Nat × List pb_El) := [(0, kb_74_0), (14, kb_74_14), (34, kb_74_34), (37, kb_74_37), (68, kb_74_68), (75, kb_74_75), (82, kb_74_82), (89, kb_74_89), (96, kb_74_96)]
def kb_75_0 : List pb_El := [(.aload_n 0, 1, 0, 0), (.invokespecial 3, 3, 1001, 1), (.aload_n 0, 1, 0, 0), (.bipush 6, 2, 6, 0), (.newarray .int, 2, 12, 0), (.putfield 9, 3, 5, 2), (.return_, 1, 0, 0)]
/-- Poll.<init>()V -/
def kc_75 : List (Nat × List pb_El) := [(0, kb_75_0)]
def kb_76_0 : List pb_El := [(.aload_n 0, 1, 0, 0), (.iconst 0, 1, 0, 0), (.putfield 15, 3, 5, 0), (.aload_n 0, 1, 0, 0), (.aload_n 1, 1, 0, 0), (.getfield 19, 3, 0, 0), (.putfield 24, 3, 5, 1), (.iconst 0, 1, 0, 0), (.istore_n 2, 1, 0, 0)]
def kb_76_15 : List pb_El := [(.iload_n 2, 1, 0, 0), (.bipush 6, 2, 6, 0), (.if_icmp .ge 50, 3, 68, 0), (.aload_n 0, 1, 0, 0), (.getfield 9, 3, 5, 2), (.iload_n 2, 1, 0, 0), (.bipush 6, 2, 6, 0), (.iastore, 1, 0, 0), (.aload_n 1, 1, 0, 0), (.iload_n 2, 1, 0, 0), (.invokevirtual 25, 3, 7, 2), (.ifCond .eq 28, 3, 62, 0), (.aload_n 0, 1, 0, 0), (.dup, 1, 0, 0), (.getfield 15, 3, 5, 0), (.iconst 1, 1, 1, 0), (.iload_n 2, 1, 0, 0), (.ishl, 1, 0, 0), (.ior, 1, 0, 0), (.putfield 15, 3, 5, 0), (.aload_n 0, 1, 0, 0), (.getfield 9, 3, 5, 2), (.iload_n 2, 1, 0, 0), (.aload_n 1, 1, 0, 0), (.iload_n 2, 1, 0, 0), (.bipush 63, 2, 63, 0), (.invokevirtual 29, 3, 11, 3), (.iastore, 1, 0, 0)]
def kb_76_62 : List pb_El := [(.iinc 2 1, 3, 1, 0), (.goto (-50), 3, 15, 0)]
def kb_76_68 : List pb_El := [(.return_, 1, 0, 0)]
/-- Poll.ask(LPointedBench$County;)V -/
def kc_76 : List (Nat × List pb_El) := [(0, kb_76_0), (15, kb_76_15), (62, kb_76_62), (68, kb_76_68)]
def kb_77_0 : List pb_El := [(.iconst 0, 1, 0, 0), (.istore_n 2, 1, 0, 0), (.iconst 0, 1, 0, 0), (.istore_n 3, 1, 0, 0)]
def kb_77_4 : List pb_El := [(.iload_n 3, 1, 0, 0), (.bipush 6, 2, 6, 0), (.if_icmp .ge 41, 3, 48, 0), (.iload_n 1, 1, 0, 0), (.iload_n 3, 1, 0, 0), (.ishr, 1, 0, 0), (.iconst 1, 1, 1, 0), (.iand, 1, 0, 0), (.ifCond .eq 27, 3, 42, 0), (.aload_n 0, 1, 0, 0), (.getfield 9, 3, 5, 2), (.iload_n 3, 1, 0, 0), (.iaload, 1, 0, 0), (.bipush 6, 2, 6, 0), (.if_icmp .eq 16, 3, 42, 0), (.iload_n 2, 1, 0, 0), (.iconst 1, 1, 1, 0), (.iconst 4, 1, 4, 0), (.aload_n 0, 1, 0, 0), (.getfield 9, 3, 5, 2), (.iload_n 3, 1, 0, 0), (.iaload, 1, 0, 0), (.imul, 1, 0, 0), (.ishl, 1, 0, 0), (.iadd, 1, 0, 0), (.istore_n 2, 1, 0, 0)]
def kb_77_42 : List pb_El := [(.iinc 3 1, 3, 1, 0), (.goto (-41), 3, 4, 0)]
def kb_77_48 : List pb_El := [(.iconst 0, 1, 0, 0), (.istore_n 3, 1, 0, 0), (.bipush 6, 2, 6, 0), (.istore 4, 2, 0, 0), (.iconst 0, 1, 0, 0), (.istore 5, 2, 0, 0)]
def kb_77_57 : List pb_El := [(.iload 5, 2, 0, 0), (.aload_n 0, 1, 0, 0), (.getfield 24, 3, 5, 1), (.if_icmp .ge 33, 3, 96, 0), (.iload_n 2, 1, 0, 0), (.iconst 4, 1, 4, 0), (.iload 5, 2, 0, 0), (.imul, 1, 0, 0), (.ishr, 1, 0, 0), (.bipush 15, 2, 15, 0), (.iand, 1, 0, 0), (.istore 6, 2, 0, 0), (.iload 6, 2, 0, 0), (.iload_n 3, 1, 0, 0), (.if_icmp .le 10, 3, 90, 0), (.iload 6, 2, 0, 0), (.istore_n 3, 1, 0, 0), (.iload 5, 2, 0, 0), (.istore 4, 2, 0, 0)]
def kb_77_90 : List pb_El := [(.iinc 5 1, 3, 1, 0), (.goto (-36), 3, 57, 0)]
def kb_77_96 : List pb_El := [(.iload 4, 2, 0, 0), (.ireturn, 1, 0, 0)]
/-- Poll.chosenBy(I)I -/
def kc_77 : List (Nat × List pb_El) := [(0, kb_77_0), (4, kb_77_4), (42, kb_77_42), (48, kb_77_48), (57, kb_77_57), (90, kb_77_90), (96, kb_77_96)]
def kb_78_0 : List pb_El := [(.iload_n 1, 1, 0, 0), (.iload_n 2, 1, 0, 0), (.iconst (-1), 1, 1, 1), (.ixor, 1, 0, 0), (.iand, 1, 0, 0), (.ifCond .ne 7, 3, 12, 0), (.iconst 1, 1, 1, 0), (.goto 4, 3, 13, 0)]
def kb_78_12 : List pb_El := [(.iconst 0, 1, 0, 0)]
def kb_78_13 : List pb_El := [(.ireturn, 1, 0, 0)]
/-- Poll.isBenchOf(II)Z -/
def kc_78 : List (Nat × List pb_El) := [(0, kb_78_0), (12, kb_78_12), (13, kb_78_13)]
def kb_79_0 : List pb_El := [(.iconst (-1), 1, 1, 1), (.istore_n 2, 1, 0, 0), (.iconst 1, 1, 1, 0), (.istore_n 3, 1, 0, 0)]
def kb_79_4 : List pb_El := [(.iload_n 3, 1, 0, 0), (.aload_n 0, 1, 0, 0), (.getfield 15, 3, 5, 0), (.if_icmp .gt 48, 3, 57, 0), (.aload_n 0, 1, 0, 0), (.iload_n 3, 1, 0, 0), (.aload_n 0, 1, 0, 0), (.getfield 15, 3, 5, 0), (.invokevirtual 33, 3, 78, 3), (.ifCond .eq 30, 3, 51, 0), (.aload_n 0, 1, 0, 0), (.iload_n 3, 1, 0, 0), (.invokevirtual 37, 3, 77, 2), (.iload_n 1, 1, 0, 0), (.if_icmp .ne 21, 3, 51, 0), (.iload_n 2, 1, 0, 0), (.iconst (-1), 1, 1, 1), (.if_icmp .eq 14, 3, 49, 0), (.iload_n 3, 1, 0, 0), (.invokestatic 41, 3, 305, 1), (.iload_n 2, 1, 0, 0), (.invokestatic 41, 3, 305, 1), (.if_icmp .le 5, 3, 51, 0)]
def kb_79_49 : List pb_El := [(.iload_n 3, 1, 0, 0), (.istore_n 2, 1, 0, 0)]
def kb_79_51 : List pb_El := [(.iinc 3 1, 3, 1, 0), (.goto (-50), 3, 4, 0)]
def kb_79_57 : List pb_El := [(.iload_n 2, 1, 0, 0), (.ireturn, 1, 0, 0)]
/-- Poll.greatestBench(I)I -/
def kc_79 : List (Nat × List pb_El) := [(0, kb_79_0), (4, kb_79_4), (49, kb_79_49), (51, kb_79_51), (57, kb_79_57)]
def kb_80_0 : List pb_El := [(.iconst (-1), 1, 1, 1), (.istore_n 2, 1, 0, 0), (.iconst 1, 1, 1, 0), (.istore_n 3, 1, 0, 0)]
def kb_80_4 : List pb_El := [(.iload_n 3, 1, 0, 0), (.aload_n 0, 1, 0, 0), (.getfield 15, 3, 5, 0), (.if_icmp .gt 48, 3, 57, 0), (.aload_n 0, 1, 0, 0), (.iload_n 3, 1, 0, 0), (.aload_n 0, 1, 0, 0), (.getfield 15, 3, 5, 0), (.invokevirtual 33, 3, 78, 3), (.ifCond .eq 30, 3, 51, 0), (.aload_n 0, 1, 0, 0), (.iload_n 3, 1, 0, 0), (.invokevirtual 37, 3, 77, 2), (.iload_n 1, 1, 0, 0), (.if_icmp .ne 21, 3, 51, 0), (.iload_n 2, 1, 0, 0), (.iconst (-1), 1, 1, 1), (.if_icmp .eq 14, 3, 49, 0), (.iload_n 3, 1, 0, 0), (.invokestatic 41, 3, 305, 1), (.iload_n 2, 1, 0, 0), (.invokestatic 41, 3, 305, 1), (.if_icmp .ge 5, 3, 51, 0)]
def kb_80_49 : List pb_El := [(.iload_n 3, 1, 0, 0), (.istore_n 2, 1, 0, 0)]
def kb_80_51 : List pb_El := [(.iinc 3 1, 3, 1, 0), (.goto (-50), 3, 4, 0)]
def kb_80_57 : List pb_El := [(.iload_n 2, 1, 0, 0), (.ireturn, 1, 0, 0)]
/-- Poll.smallestBench(I)I -/
def kc_80 : List (Nat × List pb_El) := [(0, kb_80_0), (4, kb_80_4), (49, kb_80_49), (51, kb_80_51), (57, kb_80_57)]
def kb_81_0 : List pb_El := [(.iconst 0, 1, 0, 0), (.istore_n 2, 1, 0, 0), (.iconst 1, 1, 1, 0), (.istore_n 3, 1, 0, 0)]
def kb_81_4 : List pb_El := [(.iload_n 3, 1, 0, 0), (.aload_n 0, 1, 0, 0), (.getfield 15, 3, 5, 0), (.if_icmp .gt 33, 3, 42, 0), (.aload_n 0, 1, 0, 0), (.iload_n 3, 1, 0, 0), (.aload_n 0, 1, 0, 0), (.getfield 15, 3, 5, 0), (.invokevirtual 33, 3, 78, 3), (.ifCond .eq 15, 3, 36, 0), (.aload_n 0, 1, 0, 0), (.iload_n 3, 1, 0, 0), (.invokevirtual 37, 3, 77, 2), (.iload_n 1, 1, 0, 0), (.if_icmp .ne 6, 3, 36, 0), (.iinc 2 1, 3, 1, 0)]
def kb_81_36 : List pb_El := [(.iinc 3 1, 3, 1, 0), (.goto (-35), 3, 4, 0)]
def kb_81_42 : List pb_El := [(.iload_n 2, 1, 0, 0), (.ireturn, 1, 0, 0)]
/-- Poll.benchesFor(I)I -/
def kc_81 : List (Nat × List pb_El) := [(0, kb_81_0), (4, kb_81_4), (36, kb_81_36), (42, kb_81_42)]
def kb_82_0 : List pb_El := [(.iconst 1, 1, 1, 0), (.iload_n 1, 1, 0, 0), (.ishl, 1, 0, 0), (.istore_n 2, 1, 0, 0), (.iconst 0, 1, 0, 0), (.istore_n 3, 1, 0, 0), (.iconst 0, 1, 0, 0), (.istore 4, 2, 0, 0)]
def kb_82_9 : List pb_El := [(.iload 4, 2, 0, 0), (.aload_n 0, 1, 0, 0), (.getfield 15, 3, 5, 0), (.if_icmp .gt 46, 3, 61, 0), (.aload_n 0, 1, 0, 0), (.iload 4, 2, 0, 0), (.aload_n 0, 1, 0, 0), (.getfield 15, 3, 5, 0), (.iload_n 2, 1, 0, 0), (.iconst (-1), 1, 1, 1), (.ixor, 1, 0, 0), (.iand, 1, 0, 0), (.invokevirtual 33, 3, 78, 3), (.ifCond .eq 23, 3, 55, 0), (.aload_n 0, 1, 0, 0), (.iload 4, 2, 0, 0), (.invokevirtual 37, 3, 77, 2), (.aload_n 0, 1, 0, 0), (.iload 4, 2, 0, 0), (.iload_n 2, 1, 0, 0), (.ior, 1, 0, 0), (.invokevirtual 37, 3, 77, 2), (.if_icmp .eq 6, 3, 55, 0), (.iinc 3 1, 3, 1, 0)]
def kb_82_55 : List pb_El := [(.iinc 4 1, 3, 1, 0), (.goto (-49), 3, 9, 0)]
def kb_82_61 : List pb_El := [(.iload_n 3, 1, 0, 0), (.ireturn, 1, 0, 0)]
/-- Poll.decided(I)I -/
def kc_82 : List (Nat × List pb_El) := [(0, kb_82_0), (9, kb_82_9), (55, kb_82_55), (61, kb_82_61)]
def kb_83_0 : List pb_El := [(.aload_n 0, 1, 0, 0), (.bipush 63, 2, 63, 0), (.invokevirtual 37, 3, 77, 2), (.istore_n 3, 1, 0, 0), (.iload_n 3, 1, 0, 0), (.bipush 6, 2, 6, 0), (.if_icmp .ne 5, 3, 15, 0), (.iconst (-1), 1, 1, 1), (.ireturn, 1, 0, 0)]
def kb_83_15 : List pb_El := [(.aload_n 0, 1, 0, 0), (.getfield 9, 3, 5, 2), (.iload_n 2, 1, 0, 0), (.iaload, 1, 0, 0), (.istore 4, 2, 0, 0), (.aload_n 1, 1, 0, 0), (.iload_n 2, 1, 0, 0), (.iload_n 3, 1, 0, 0), (.invokevirtual 46, 3, 9, 3), (.istore 5, 2, 0, 0), (.iconst (-1), 1, 1, 1), (.istore 6, 2, 0, 0), (.iconst 0, 1, 0, 0), (.istore 7, 2, 0, 0)]
def kb_83_37 : List pb_El := [(.iload 7, 2, 0, 0), (.aload_n 0, 1, 0, 0), (.getfield 24, 3, 5, 1), (.if_icmp .ge 54, 3, 97, 0), (.iload 6, 2, 0, 0), (.iconst (-1), 1, 1, 1), (.if_icmp .ne 48, 3, 97, 0), (.aload_n 0, 1, 0, 0), (.getfield 9, 3, 5, 2), (.iload_n 2, 1, 0, 0), (.iload 7, 2, 0, 0), (.iastore, 1, 0, 0), (.aload_n 0, 1, 0, 0), (.bipush 63, 2, 63, 0), (.invokevirtual 37, 3, 77, 2), (.istore 8, 2, 0, 0), (.iload 8, 2, 0, 0), (.bipush 6, 2, 6, 0), (.if_icmp .eq 19, 3, 91, 0), (.aload_n 1, 1, 0, 0), (.iload_n 2, 1, 0, 0), (.iload 8, 2, 0, 0), (.invokevirtual 46, 3, 9, 3), (.iload 5, 2, 0, 0), (.if_icmp .le 7, 3, 91, 0), (.iload 7, 2, 0, 0), (.istore 6, 2, 0, 0)]
def kb_83_91 : List pb_El := [(.iinc 7 1, 3, 1, 0), (.goto (-57), 3, 37, 0)]
def kb_83_97 : List pb_El := [(.aload_n 0, 1, 0, 0), (.getfield 9, 3, 5, 2), (.iload_n 2, 1, 0, 0), (.iload 4, 2, 0, 0), (.iastore, 1, 0, 0), (.iload 6, 2, 0, 0), (.ireturn, 1, 0, 0)]
/-- Poll.bestLie(LPointedBench$County;I)I -/
def kc_83 : List (Nat × List pb_El) := [(0, kb_83_0), (15, kb_83_15), (37, kb_83_37), (91, kb_83_91), (97, kb_83_97)]
def kb_84_0 : List pb_El := [(.aload_n 0, 1, 0, 0), (.invokespecial 3, 3, 1001, 1), (.aload_n 0, 1, 0, 0), (.new 9, 3, 0, 0), (.dup, 1, 0, 0), (.invokespecial 11, 3, 0, 1), (.putfield 12, 3, 6, 0), (.aload_n 0, 1, 0, 0), (.new 18, 3, 4, 0), (.dup, 1, 0, 0), (.bipush 40, 2, 40, 0), (.iconst 3, 1, 3, 0), (.invokespecial 20, 3, 70, 3), (.putfield 23, 3, 6, 1), (.aload_n 0, 1, 0, 0), (.new 18, 3, 4, 0), (.dup, 1, 0, 0), (.bipush 8, 2, 8, 0), (.iconst 2, 1, 2, 0), (.invokespecial 20, 3, 70, 3), (.putfield 27, 3, 6, 2), (.aload_n 0, 1, 0, 0), (.iconst 3, 1, 3, 0), (.newarray .int, 2, 12, 0), (.putfield 30, 3, 6, 12), (.return_, 1, 0, 0)]
/-- Reader.<init>()V -/
def kc_84 : List (Nat × List pb_El) := [(0, kb_84_0)]
def kb_85_0 : List pb_El := [(.aload_n 0, 1, 0, 0), (.aload_n 2, 1, 0, 0), (.iload_n 3, 1, 0, 0), (.invokevirtual 34, 3, 86, 3), (.iconst 0, 1, 0, 0), (.istore 4, 2, 0, 0)]
def kb_85_9 : List pb_El := [(.iload 4, 2, 0, 0), (.aload_n 0, 1, 0, 0), (.getfield 38, 3, 6, 6), (.if_icmp .gt 66, 3, 81, 0), (.aload_n 0, 1, 0, 0), (.invokevirtual 42, 3, 88, 1), (.aload_n 0, 1, 0, 0), (.getfield 45, 3, 6, 7), (.ifCond .ne 27, 3, 53, 0), (.aload_n 0, 1, 0, 0), (.getfield 48, 3, 6, 3), (.ifCond .ne 19, 3, 52, 0), (.aload_n 0, 1, 0, 0), (.invokevirtual 51, 3, 98, 1), (.ifCond .eq 12, 3, 52, 0), (.aload_n 0, 1, 0, 0), (.iconst 4, 1, 4, 0), (.aload_n 0, 1, 0, 0), (.getfield 38, 3, 6, 6), (.invokevirtual 55, 3, 87, 3)]
def kb_85_52 : List pb_El := [(.return_, 1, 0, 0)]
def kb_85_53 : List pb_El := [(.aload_n 0, 1, 0, 0), (.iload_n 1, 1, 0, 0), (.invokevirtual 58, 3, 91, 2), (.ifCond .ne 17, 3, 75, 0), (.aload_n 0, 1, 0, 0), (.iconst 1, 1, 1, 0), (.putfield 48, 3, 6, 3), (.aload_n 0, 1, 0, 0), (.aload_n 0, 1, 0, 0), (.getfield 62, 3, 6, 8), (.putfield 65, 3, 6, 4), (.return_, 1, 0, 0)]
def kb_85_75 : List pb_El := [(.iinc 4 1, 3, 1, 0), (.goto (-69), 3, 9, 0)]
def kb_85_81 : List pb_El := [(.return_, 1, 0, 0)]
/-- Reader.read(I[BI)V -/
def kc_85 : List (Nat × List pb_El) := [(0, kb_85_0), (9, kb_85_9), (52, kb_85_52), (53, kb_85_53), (75, kb_85_75), (81, kb_85_81)]
def kb_86_0 : List pb_El := [(.aload_n 0, 1, 0, 0), (.aload_n 1, 1, 0, 0), (.putfield 68, 3, 6, 5), (.aload_n 0, 1, 0, 0), (.iload_n 2, 1, 0, 0), (.aload_n 1, 1, 0, 0), (.arraylength, 1, 13, 0), (.invokestatic 72, 3, 1004, 2), (.putfield 38, 3, 6, 6), (.aload_n 0, 1, 0, 0), (.iconst 0, 1, 0, 0), (.putfield 78, 3, 6, 9), (.aload_n 0, 1, 0, 0), (.iconst 0, 1, 0, 0), (.putfield 48, 3, 6, 3), (.aload_n 0, 1, 0, 0), (.iconst (-1), 1, 1, 1), (.putfield 65, 3, 6, 4), (.aload_n 0, 1, 0, 0), (.iconst 0, 1, 0, 0), (.putfield 81, 3, 6, 10), (.aload_n 0, 1, 0, 0), (.iconst 0, 1, 0, 0), (.putfield 84, 3, 6, 11), (.aload_n 0, 1, 0, 0), (.getfield 12, 3, 6, 0), (.invokevirtual 87, 3, 1, 1), (.aload_n 0, 1, 0, 0), (.getfield 23, 3, 6, 1), (.iconst 0, 1, 0, 0), (.putfield 90, 3, 4, 0), (.aload_n 0, 1, 0, 0), (.getfield 27, 3, 6, 2), (.iconst 0, 1, 0, 0), (.putfield 90, 3, 4, 0), (.return_, 1, 0, 0)]
/-- Reader.begin([BI)V -/
def kc_86 : List (Nat × List pb_El) := [(0, kb_86_0)]
def kb_87_0 : List pb_El := [(.aload_n 0, 1, 0, 0), (.getfield 48, 3, 6, 3), (.ifCond .ne 13, 3, 17, 0), (.aload_n 0, 1, 0, 0), (.iload_n 1, 1, 0, 0), (.putfield 48, 3, 6, 3), (.aload_n 0, 1, 0, 0), (.iload_n 2, 1, 0, 0), (.putfield 65, 3, 6, 4)]
def kb_87_17 : List pb_El := [(.return_, 1, 0, 0)]
/-- Reader.blame(II)V -/
def kc_87 : List (Nat × List pb_El) := [(0, kb_87_0), (17, kb_87_17)]
def kb_88_0 : List pb_El := [(.aload_n 0, 1, 0, 0), (.aload_n 0, 1, 0, 0), (.getfield 78, 3, 6, 9), (.putfield 62, 3, 6, 8)]
def kb_88_8 : List pb_El := [(.aload_n 0, 1, 0, 0), (.getfield 62, 3, 6, 8), (.aload_n 0, 1, 0, 0), (.getfield 38, 3, 6, 6), (.if_icmp .ge 44, 3, 60, 0), (.aload_n 0, 1, 0, 0), (.getfield 68, 3, 6, 5), (.aload_n 0, 1, 0, 0), (.getfield 62, 3, 6, 8), (.baload, 1, 13, 0), (.bipush 32, 2, 32, 0), (.if_icmp .eq 17, 3, 47, 0), (.aload_n 0, 1, 0, 0), (.getfield 68, 3, 6, 5), (.aload_n 0, 1, 0, 0), (.getfield 62, 3, 6, 8), (.baload, 1, 13, 0), (.bipush 10, 2, 10, 0), (.if_icmp .ne 16, 3, 60, 0)]
def kb_88_47 : List pb_El := [(.aload_n 0, 1, 0, 0), (.dup, 1, 0, 0), (.getfield 62, 3, 6, 8), (.iconst 1, 1, 1, 0), (.iadd, 1, 0, 0), (.putfield 62, 3, 6, 8), (.goto (-49), 3, 8, 0)]
def kb_88_60 : List pb_El := [(.aload_n 0, 1, 0, 0), (.aload_n 0, 1, 0, 0), (.getfield 62, 3, 6, 8), (.putfield 78, 3, 6, 9), (.aload_n 0, 1, 0, 0), (.getfield 62, 3, 6, 8), (.aload_n 0, 1, 0, 0), (.getfield 38, 3, 6, 6), (.if_icmp .lt 11, 3, 87, 0), (.aload_n 0, 1, 0, 0), (.iconst 0, 1, 0, 0), (.putfield 45, 3, 6, 7), (.goto 174, 3, 258, 0)]
def kb_88_87 : List pb_El := [(.aload_n 0, 1, 0, 0), (.getfield 68, 3, 6, 5), (.aload_n 0, 1, 0, 0), (.getfield 62, 3, 6, 8), (.baload, 1, 13, 0), (.invokestatic 93, 3, 89, 1), (.ifCond .eq 47, 3, 146, 0), (.aload_n 0, 1, 0, 0), (.iconst 1, 1, 1, 0), (.putfield 45, 3, 6, 7)]
def kb_88_107 : List pb_El := [(.aload_n 0, 1, 0, 0), (.getfield 78, 3, 6, 9), (.aload_n 0, 1, 0, 0), (.getfield 38, 3, 6, 6), (.if_icmp .ge 143, 3, 258, 0), (.aload_n 0, 1, 0, 0), (.getfield 68, 3, 6, 5), (.aload_n 0, 1, 0, 0), (.getfield 78, 3, 6, 9), (.baload, 1, 13, 0), (.invokestatic 93, 3, 89, 1), (.ifCond .eq 128, 3, 258, 0), (.aload_n 0, 1, 0, 0), (.dup, 1, 0, 0), (.getfield 78, 3, 6, 9), (.iconst 1, 1, 1, 0), (.iadd, 1, 0, 0), (.putfield 78, 3, 6, 9), (.goto (-36), 3, 107, 0)]
def kb_88_146 : List pb_El := [(.aload_n 0, 1, 0, 0), (.getfield 68, 3, 6, 5), (.aload_n 0, 1, 0, 0), (.getfield 62, 3, 6, 8), (.baload, 1, 13, 0), (.invokestatic 97, 3, 90, 1), (.ifCond .eq 67, 3, 225, 0)]
def kb_88_161 : List pb_El := [(.aload_n 0, 1, 0, 0), (.getfield 78, 3, 6, 9), (.aload_n 0, 1, 0, 0), (.getfield 38, 3, 6, 6), (.if_icmp .ge 31, 3, 200, 0), (.aload_n 0, 1, 0, 0), (.getfield 68, 3, 6, 5), (.aload_n 0, 1, 0, 0), (.getfield 78, 3, 6, 9), (.baload, 1, 13, 0), (.invokestatic 97, 3, 90, 1), (.ifCond .eq 16, 3, 200, 0), (.aload_n 0, 1, 0, 0), (.dup, 1, 0, 0), (.getfield 78, 3, 6, 9), (.iconst 1, 1, 1, 0), (.iadd, 1, 0, 0), (.putfield 78, 3, 6, 9), (.goto (-36), 3, 161, 0)]
def kb_88_200 : List pb_El := [(.aload_n 0, 1, 0, 0), (.aload_n 0, 1, 0, 0), (.getfield 78, 3, 6, 9), (.aload_n 0, 1, 0, 0), (.getfield 62, 3, 6, 8), (.isub, 1, 0, 0), (.iconst 2, 1, 2, 0), (.if_icmp .gt 7, 3, 218, 0), (.iconst 2, 1, 2, 0), (.goto 4, 3, 219, 0)]
def kb_88_218 : List pb_El := [(.iconst 4, 1, 4, 0)]
def kb_88_219 : List pb_El := [(.putfield 45, 3, 6, 7), (.goto 36, 3, 258, 0)]
def kb_88_225 : List pb_El := [(.aload_n 0, 1, 0, 0), (.dup, 1, 0, 0), (.getfield 78, 3, 6, 9), (.iconst 1, 1, 1, 0), (.iadd, 1, 0, 0), (.putfield 78, 3, 6, 9), (.aload_n 0, 1, 0, 0), (.aload_n 0, 1, 0, 0), (.getfield 68, 3, 6, 5), (.aload_n 0, 1, 0, 0), (.getfield 62, 3, 6, 8), (.baload, 1, 13, 0), (.bipush 59, 2, 59, 0), (.if_icmp .ne 7, 3, 254, 0), (.iconst 3, 1, 3, 0), (.goto 4, 3, 255, 0)]
def kb_88_254 : List pb_El := [(.iconst 4, 1, 4, 0)]
def kb_88_255 : List pb_El := [(.putfield 45, 3, 6, 7)]
def kb_88_258 : List pb_El := [(.return_, 1, 0, 0)]
/-- Reader.next()V -/
def kc_88 : List (Nat × List pb_El) := [(0, kb_88_0), (8, kb_88_8), (47, kb_88_47), (60, kb_88_60), (87, kb_88_87), (107, kb_88_107), (146, kb_88_146), (161, kb_88_161), (200, kb_88_200), (218, kb_88_218), (219, kb_88_219), (225, kb_88_225), (254, kb_88_254), (255, kb_88_255), (258, kb_88_258)]
def kb_89_0 : List pb_El := [(.iload_n 0, 1, 0, 0), (.bipush 97, 2, 97, 0), (.if_icmp .lt 13, 3, 16, 0), (.iload_n 0, 1, 0, 0), (.bipush 122, 2, 122, 0), (.if_icmp .gt 7, 3, 16, 0), (.iconst 1, 1, 1, 0), (.goto 4, 3, 17, 0)]
def kb_89_16 : List pb_El := [(.iconst 0, 1, 0, 0)]
def kb_89_17 : List pb_El := [(.ireturn, 1, 0, 0)]
/-- Reader.isLetter(B)Z -/
def kc_89 : List (Nat × List pb_El) := [(0, kb_89_0), (16, kb_89_16), (17, kb_89_17)]
def kb_90_0 : List pb_El := [(.iload_n 0, 1, 0, 0), (.bipush 48, 2, 48, 0), (.if_icmp .lt 13, 3, 16, 0), (.iload_n 0, 1, 0, 0), (.bipush 57, 2, 57, 0), (.if_icmp .gt 7, 3, 16, 0), (.iconst 1, 1, 1, 0), (.goto 4, 3, 17, 0)]
def kb_90_16 : List pb_El := [(.iconst 0, 1, 0, 0)]
def kb_90_17 : List pb_El := [(.ireturn, 1, 0, 0)]
/-- Reader.isDigit(B)Z -/
def kc_90 : List (Nat × List pb_El) := [(0, kb_90_0), (16, kb_90_16), (17, kb_90_17)]
def kb_91_0 : List pb_El := [(.aload_n 0, 1, 0, 0), (.iload_n 1, 1, 0, 0), (.invokevirtual 100, 3, 92, 2), (.istore_n 2, 1, 0, 0), (.iload_n 2, 1, 0, 0), (.iconst (-1), 1, 1, 1), (.if_icmp .ne 5, 3, 13, 0), (.iconst 0, 1, 0, 0), (.ireturn, 1, 0, 0)]
def kb_91_13 : List pb_El := [(.aload_n 0, 1, 0, 0), (.iload_n 2, 1, 0, 0), (.invokevirtual 104, 3, 94, 2), (.ifCond .eq 12, 3, 30, 0), (.aload_n 0, 1, 0, 0), (.iconst 3, 1, 3, 0), (.aload_n 0, 1, 0, 0), (.getfield 62, 3, 6, 8), (.invokevirtual 55, 3, 87, 3)]
def kb_91_30 : List pb_El := [(.aload_n 0, 1, 0, 0), (.getfield 30, 3, 6, 12), (.iconst (-1), 1, 1, 1), (.invokestatic 107, 3, 306, 2), (.iconst 0, 1, 0, 0), (.istore_n 3, 1, 0, 0)]
def kb_91_40 : List pb_El := [(.iload_n 3, 1, 0, 0), (.iconst 3, 1, 3, 0), (.if_icmp .ge 64, 3, 106, 0), (.getstatic 113, 3, 3, 0), (.iload_n 2, 1, 0, 0), (.iconst 3, 1, 3, 0), (.imul, 1, 0, 0), (.iload_n 3, 1, 0, 0), (.iadd, 1, 0, 0), (.iaload, 1, 0, 0), (.iconst (-1), 1, 1, 1), (.if_icmp .eq 51, 3, 106, 0), (.aload_n 0, 1, 0, 0), (.invokevirtual 42, 3, 88, 1), (.aload_n 0, 1, 0, 0), (.getfield 45, 3, 6, 7), (.iconst 2, 1, 2, 0), (.if_icmp .eq 5, 3, 72, 0), (.iconst 0, 1, 0, 0), (.ireturn, 1, 0, 0)]
def kb_91_72 : List pb_El := [(.aload_n 0, 1, 0, 0), (.getfield 30, 3, 6, 12), (.iload_n 3, 1, 0, 0), (.aload_n 0, 1, 0, 0), (.invokevirtual 116, 3, 95, 1), (.iastore, 1, 0, 0), (.aload_n 0, 1, 0, 0), (.iload_n 2, 1, 0, 0), (.iload_n 3, 1, 0, 0), (.invokevirtual 120, 3, 96, 3), (.ifCond .ne 12, 3, 100, 0), (.aload_n 0, 1, 0, 0), (.iconst 2, 1, 2, 0), (.aload_n 0, 1, 0, 0), (.getfield 62, 3, 6, 8), (.invokevirtual 55, 3, 87, 3)]
def kb_91_100 : List pb_El := [(.iinc 3 1, 3, 1, 0), (.goto (-63), 3, 40, 0)]
def kb_91_106 : List pb_El := [(.aload_n 0, 1, 0, 0), (.invokevirtual 42, 3, 88, 1), (.aload_n 0, 1, 0, 0), (.getfield 45, 3, 6, 7), (.iconst 3, 1, 3, 0), (.if_icmp .eq 5, 3, 120, 0), (.iconst 0, 1, 0, 0), (.ireturn, 1, 0, 0)]
def kb_91_120 : List pb_El := [(.aload_n 0, 1, 0, 0), (.getfield 48, 3, 6, 3), (.ifCond .ne 8, 3, 132, 0), (.aload_n 0, 1, 0, 0), (.iload_n 2, 1, 0, 0), (.invokevirtual 124, 3, 97, 2)]
def kb_91_132 : List pb_El := [(.iconst 1, 1, 1, 0), (.ireturn, 1, 0, 0)]
/-- Reader.readLine(I)Z -/
def kc_91 : List (Nat × List pb_El) := [(0, kb_91_0), (13, kb_91_13), (30, kb_91_30), (40, kb_91_40), (72, kb_91_72), (100, kb_91_100), (106, kb_91_106), (120, kb_91_120), (132, kb_91_132)]
def kb_92_0 : List pb_El := [(.aload_n 0, 1, 0, 0), (.getfield 45, 3, 6, 7), (.iconst 1, 1, 1, 0), (.if_icmp .ne 50, 3, 55, 0), (.aload_n 0, 1, 0, 0), (.getfield 78, 3, 6, 9), (.aload_n 0, 1, 0, 0), (.getfield 62, 3, 6, 8), (.isub, 1, 0, 0), (.bipush 8, 2, 8, 0), (.if_icmp .ge 36, 3, 55, 0), (.getstatic 128, 3, 4, 0), (.iload_n 1, 1, 0, 0), (.iaload, 1, 0, 0), (.istore_n 2, 1, 0, 0)]
def kb_92_28 : List pb_El := [(.iload_n 2, 1, 0, 0), (.getstatic 128, 3, 4, 0), (.iload_n 1, 1, 0, 0), (.iconst 1, 1, 1, 0), (.iadd, 1, 0, 0), (.iaload, 1, 0, 0), (.if_icmp .ge 19, 3, 55, 0), (.aload_n 0, 1, 0, 0), (.iload_n 2, 1, 0, 0), (.invokevirtual 131, 3, 93, 2), (.ifCond .eq 5, 3, 49, 0), (.iload_n 2, 1, 0, 0), (.ireturn, 1, 0, 0)]
def kb_92_49 : List pb_El := [(.iinc 2 1, 3, 1, 0), (.goto (-24), 3, 28, 0)]
def kb_92_55 : List pb_El := [(.iconst (-1), 1, 1, 1), (.ireturn, 1, 0, 0)]
/-- Reader.lineOf(I)I -/
def kc_92 : List (Nat × List pb_El) := [(0, kb_92_0), (28, kb_92_28), (49, kb_92_49), (55, kb_92_55)]
def kb_93_0 : List pb_El := [(.iconst 0, 1, 0, 0), (.istore_n 2, 1, 0, 0)]
def kb_93_2 : List pb_El := [(.iload_n 2, 1, 0, 0), (.bipush 8, 2, 8, 0), (.if_icmp .ge 56, 3, 61, 0), (.aload_n 0, 1, 0, 0), (.getfield 62, 3, 6, 8), (.iload_n 2, 1, 0, 0), (.iadd, 1, 0, 0), (.aload_n 0, 1, 0, 0), (.getfield 78, 3, 6, 9), (.if_icmp .ge 17, 3, 35, 0), (.aload_n 0, 1, 0, 0), (.getfield 68, 3, 6, 5), (.aload_n 0, 1, 0, 0), (.getfield 62, 3, 6, 8), (.iload_n 2, 1, 0, 0), (.iadd, 1, 0, 0), (.baload, 1, 13, 0), (.goto 5, 3, 37, 0)]
def kb_93_35 : List pb_El := [(.bipush 32, 2, 32, 0)]
def kb_93_37 : List pb_El := [(.istore_n 3, 1, 0, 0), (.iload_n 3, 1, 0, 0), (.ldc 134, 2, 9, 1), (.iload_n 1, 1, 0, 0), (.bipush 8, 2, 8, 0), (.imul, 1, 0, 0), (.iload_n 2, 1, 0, 0), (.iadd, 1, 0, 0), (.invokevirtual 136, 3, 1002, 2), (.if_icmp .eq 5, 3, 55, 0), (.iconst 0, 1, 0, 0), (.ireturn, 1, 0, 0)]
def kb_93_55 : List pb_El := [(.iinc 2 1, 3, 1, 0), (.goto (-56), 3, 2, 0)]
def kb_93_61 : List pb_El := [(.iconst 1, 1, 1, 0), (.ireturn, 1, 0, 0)]
/-- Reader.isWordOf(I)Z -/
def kc_93 : List (Nat × List pb_El) := [(0, kb_93_0), (2, kb_93_2), (35, kb_93_35), (37, kb_93_37), (55, kb_93_55), (61, kb_93_61)]
def kb_94_0 : List pb_El := [(.iload_n 1, 1, 0, 0), (.ifCond .ne 21, 3, 22, 0), (.aload_n 0, 1, 0, 0), (.getfield 12, 3, 6, 0), (.getfield 142, 3, 0, 0), (.bipush 6, 2, 6, 0), (.if_icmp .lt 7, 3, 20, 0), (.iconst 1, 1, 1, 0), (.goto 4, 3, 21, 0)]
def kb_94_20 : List pb_El := [(.iconst 0, 1, 0, 0)]
def kb_94_21 : List pb_El := [(.ireturn, 1, 0, 0)]
def kb_94_22 : List pb_El := [(.iload_n 1, 1, 0, 0), (.iconst 1, 1, 1, 0), (.if_icmp .ne 21, 3, 45, 0), (.aload_n 0, 1, 0, 0), (.getfield 12, 3, 6, 0), (.getfield 143, 3, 0, 1), (.bipush 6, 2, 6, 0), (.if_icmp .lt 7, 3, 43, 0), (.iconst 1, 1, 1, 0), (.goto 4, 3, 44, 0)]
def kb_94_43 : List pb_El := [(.iconst 0, 1, 0, 0)]
def kb_94_44 : List pb_El := [(.ireturn, 1, 0, 0)]
def kb_94_45 : List pb_El := [(.iload_n 1, 1, 0, 0), (.getstatic 128, 3, 4, 0), (.iconst 2, 1, 2, 0), (.iaload, 1, 0, 0), (.if_icmp .lt 11, 3, 62, 0), (.aload_n 0, 1, 0, 0), (.getfield 27, 3, 6, 2), (.invokevirtual 144, 3, 71, 1), (.ireturn, 1, 0, 0)]
def kb_94_62 : List pb_El := [(.iload_n 1, 1, 0, 0), (.getstatic 128, 3, 4, 0), (.iconst 1, 1, 1, 0), (.iaload, 1, 0, 0), (.if_icmp .lt 17, 3, 85, 0), (.aload_n 0, 1, 0, 0), (.getfield 23, 3, 6, 1), (.invokevirtual 144, 3, 71, 1), (.ifCond .eq 7, 3, 85, 0), (.iconst 1, 1, 1, 0), (.goto 4, 3, 86, 0)]
def kb_94_85 : List pb_El := [(.iconst 0, 1, 0, 0)]
def kb_94_86 : List pb_El := [(.ireturn, 1, 0, 0)]
/-- Reader.isFullFor(I)Z -/
def kc_94 : List (Nat × List pb_El) := [(0, kb_94_0), (20, kb_94_20), (21, kb_94_21), (22, kb_94_22), (43, kb_94_43), (44, kb_94_44), (45, kb_94_45), (62, kb_94_62), (85, kb_94_85), (86, kb_94_86)]
def kb_95_0 : List pb_El := [(.iconst 0, 1, 0, 0), (.istore_n 1, 1, 0, 0), (.aload_n 0, 1, 0, 0), (.getfield 62, 3, 6, 8), (.istore_n 2, 1, 0, 0)]
def kb_95_7 : List pb_El := [(.iload_n 2, 1, 0, 0), (.aload_n 0, 1, 0, 0), (.getfield 78, 3, 6, 9), (.if_icmp .ge 24, 3, 36, 0), (.bipush 10, 2, 10, 0), (.iload_n 1, 1, 0, 0), (.imul, 1, 0, 0), (.aload_n 0, 1, 0, 0), (.getfield 68, 3, 6, 5), (.iload_n 2, 1, 0, 0), (.baload, 1, 13, 0), (.iadd, 1, 0, 0), (.bipush 48, 2, 48, 0), (.isub, 1, 0, 0), (.istore_n 1, 1, 0, 0), (.iinc 2 1, 3, 1, 0), (.goto (-26), 3, 7, 0)]
def kb_95_36 : List pb_El := [(.iload_n 1, 1, 0, 0), (.ireturn, 1, 0, 0)]
/-- Reader.value()I -/
def kc_95 : List (Nat × List pb_El) := [(0, kb_95_0), (7, kb_95_7), (36, kb_95_36)]
def kb_96_0 : List pb_El := [(.iload_n 1, 1, 0, 0), (.getstatic 128, 3, 4, 0), (.iconst 1, 1, 1, 0), (.iaload, 1, 0, 0), (.iconst 3, 1, 3, 0), (.iadd, 1, 0, 0), (.if_icmp .ne 12, 3, 20, 0), (.iload_n 2, 1, 0, 0), (.iconst 2, 1, 2, 0), (.if_icmp .ne 7, 3, 20, 0), (.iconst 1, 1, 1, 0), (.goto 4, 3, 21, 0)]
def kb_96_20 : List pb_El := [(.iconst 0, 1, 0, 0)]
def kb_96_21 : List pb_El := [(.istore_n 3, 1, 0, 0), (.aload_n 0, 1, 0, 0), (.getfield 30, 3, 6, 12), (.iload_n 2, 1, 0, 0), (.iaload, 1, 0, 0), (.getstatic 113, 3, 3, 0), (.iload_n 1, 1, 0, 0), (.iconst 3, 1, 3, 0), (.imul, 1, 0, 0), (.iload_n 2, 1, 0, 0), (.iadd, 1, 0, 0), (.iaload, 1, 0, 0), (.if_icmp .gt 25, 3, 62, 0), (.aload_n 0, 1, 0, 0), (.getfield 30, 3, 6, 12), (.iload_n 2, 1, 0, 0), (.iaload, 1, 0, 0), (.iload_n 3, 1, 0, 0), (.ifCond .eq 7, 3, 54, 0), (.iconst 1, 1, 1, 0), (.goto 4, 3, 55, 0)]
def kb_96_54 : List pb_El := [(.iconst 0, 1, 0, 0)]
def kb_96_55 : List pb_El := [(.if_icmp .lt 7, 3, 62, 0), (.iconst 1, 1, 1, 0), (.goto 4, 3, 63, 0)]
def kb_96_62 : List pb_El := [(.iconst 0, 1, 0, 0)]
def kb_96_63 : List pb_El := [(.ireturn, 1, 0, 0)]
/-- Reader.canBe(II)Z -/
def kc_96 : List (Nat × List pb_El) := [(0, kb_96_0), (20, kb_96_20), (21, kb_96_21), (54, kb_96_54), (55, kb_96_55), (62, kb_96_62), (63, kb_96_63)]
def kb_97_0 : List pb_El := [(.iload_n 1, 1, 0, 0), (.getstatic 128, 3, 4, 0), (.iconst 2, 1, 2, 0), (.iaload, 1, 0, 0), (.if_icmp .lt 33, 3, 39, 0), (.aload_n 0, 1, 0, 0), (.getfield 27, 3, 6, 2), (.iload_n 1, 1, 0, 0), (.getstatic 128, 3, 4, 0), (.iconst 2, 1, 2, 0), (.iaload, 1, 0, 0), (.isub, 1, 0, 0), (.aload_n 0, 1, 0, 0), (.getfield 30, 3, 6, 12), (.iconst 0, 1, 0, 0), (.iaload, 1, 0, 0), (.aload_n 0, 1, 0, 0), (.getfield 30, 3, 6, 12), (.iconst 1, 1, 1, 0), (.iaload, 1, 0, 0), (.iconst (-1), 1, 1, 1), (.invokevirtual 147, 3, 72, 5), (.goto 285, 3, 321, 0)]
def kb_97_39 : List pb_El := [(.iload_n 1, 1, 0, 0), (.getstatic 128, 3, 4, 0), (.iconst 1, 1, 1, 0), (.iaload, 1, 0, 0), (.if_icmp .lt 38, 3, 83, 0), (.aload_n 0, 1, 0, 0), (.getfield 23, 3, 6, 1), (.iload_n 1, 1, 0, 0), (.getstatic 128, 3, 4, 0), (.iconst 1, 1, 1, 0), (.iaload, 1, 0, 0), (.isub, 1, 0, 0), (.aload_n 0, 1, 0, 0), (.getfield 30, 3, 6, 12), (.iconst 0, 1, 0, 0), (.iaload, 1, 0, 0), (.aload_n 0, 1, 0, 0), (.getfield 30, 3, 6, 12), (.iconst 1, 1, 1, 0), (.iaload, 1, 0, 0), (.aload_n 0, 1, 0, 0), (.getfield 30, 3, 6, 12), (.iconst 2, 1, 2, 0), (.iaload, 1, 0, 0), (.invokevirtual 147, 3, 72, 5), (.goto 241, 3, 321, 0)]
def kb_97_83 : List pb_El := [(.iload_n 1, 1, 0, 0), (.ifCond .ne 40, 3, 124, 0), (.aload_n 0, 1, 0, 0), (.getfield 12, 3, 6, 0), (.getfield 151, 3, 0, 2), (.aload_n 0, 1, 0, 0), (.getfield 12, 3, 6, 0), (.getfield 142, 3, 0, 0), (.aload_n 0, 1, 0, 0), (.getfield 30, 3, 6, 12), (.iconst 0, 1, 0, 0), (.iaload, 1, 0, 0), (.iastore, 1, 0, 0), (.aload_n 0, 1, 0, 0), (.getfield 12, 3, 6, 0), (.dup, 1, 0, 0), (.getfield 142, 3, 0, 0), (.iconst 1, 1, 1, 0), (.iadd, 1, 0, 0), (.putfield 142, 3, 0, 0), (.goto 200, 3, 321, 0)]
def kb_97_124 : List pb_El := [(.iload_n 1, 1, 0, 0), (.iconst 1, 1, 1, 0), (.if_icmp .ne 61, 3, 187, 0), (.aload_n 0, 1, 0, 0), (.getfield 12, 3, 6, 0), (.getfield 154, 3, 0, 4), (.aload_n 0, 1, 0, 0), (.getfield 12, 3, 6, 0), (.getfield 143, 3, 0, 1), (.aload_n 0, 1, 0, 0), (.getfield 30, 3, 6, 12), (.iconst 0, 1, 0, 0), (.iaload, 1, 0, 0), (.iastore, 1, 0, 0), (.aload_n 0, 1, 0, 0), (.getfield 12, 3, 6, 0), (.getfield 157, 3, 0, 5), (.aload_n 0, 1, 0, 0), (.getfield 12, 3, 6, 0), (.getfield 143, 3, 0, 1), (.aload_n 0, 1, 0, 0), (.getfield 30, 3, 6, 12), (.iconst 1, 1, 1, 0), (.iaload, 1, 0, 0), (.iastore, 1, 0, 0), (.aload_n 0, 1, 0, 0), (.getfield 12, 3, 6, 0), (.dup, 1, 0, 0), (.getfield 143, 3, 0, 1), (.iconst 1, 1, 1, 0), (.iadd, 1, 0, 0), (.putfield 143, 3, 0, 1), (.goto 137, 3, 321, 0)]
def kb_97_187 : List pb_El := [(.iload_n 1, 1, 0, 0), (.iconst 2, 1, 2, 0), (.if_icmp .ne 50, 3, 239, 0), (.aload_n 0, 1, 0, 0), (.getfield 12, 3, 6, 0), (.getfield 160, 3, 0, 3), (.aload_n 0, 1, 0, 0), (.getfield 30, 3, 6, 12), (.iconst 0, 1, 0, 0), (.iaload, 1, 0, 0), (.dup2, 1, 0, 0), (.iaload, 1, 0, 0), (.iconst 1, 1, 1, 0), (.aload_n 0, 1, 0, 0), (.getfield 30, 3, 6, 12), (.iconst 1, 1, 1, 0), (.iaload, 1, 0, 0), (.ishl, 1, 0, 0), (.ior, 1, 0, 0), (.iastore, 1, 0, 0), (.aload_n 0, 1, 0, 0), (.aload_n 0, 1, 0, 0), (.getfield 81, 3, 6, 10), (.aload_n 0, 1, 0, 0), (.getfield 30, 3, 6, 12), (.iconst 0, 1, 0, 0), (.iaload, 1, 0, 0), (.iconst 1, 1, 1, 0), (.iadd, 1, 0, 0), (.invokestatic 163, 3, 1003, 2), (.putfield 81, 3, 6, 10), (.goto 85, 3, 321, 0)]
def kb_97_239 : List pb_El := [(.aload_n 0, 1, 0, 0), (.aload_n 0, 1, 0, 0), (.getfield 84, 3, 6, 11), (.aload_n 0, 1, 0, 0), (.getfield 30, 3, 6, 12), (.iconst 0, 1, 0, 0), (.iaload, 1, 0, 0), (.iconst 1, 1, 1, 0), (.iadd, 1, 0, 0), (.invokestatic 163, 3, 1003, 2), (.putfield 84, 3, 6, 11), (.iload_n 1, 1, 0, 0), (.iconst 3, 1, 3, 0), (.if_icmp .ne 31, 3, 291, 0), (.aload_n 0, 1, 0, 0), (.getfield 12, 3, 6, 0), (.getfield 166, 3, 0, 6), (.aload_n 0, 1, 0, 0), (.getfield 30, 3, 6, 12), (.iconst 0, 1, 0, 0), (.iaload, 1, 0, 0), (.dup2, 1, 0, 0), (.iaload, 1, 0, 0), (.iconst 1, 1, 1, 0), (.aload_n 0, 1, 0, 0), (.getfield 30, 3, 6, 12), (.iconst 1, 1, 1, 0), (.iaload, 1, 0, 0), (.ishl, 1, 0, 0), (.ior, 1, 0, 0), (.iastore, 1, 0, 0), (.goto 33, 3, 321, 0)]
def kb_97_291 : List pb_El := [(.aload_n 0, 1, 0, 0), (.getfield 12, 3, 6, 0), (.getfield 169, 3, 0, 7), (.aload_n 0, 1, 0, 0), (.getfield 30, 3, 6, 12), (.iconst 0, 1, 0, 0), (.iaload, 1, 0, 0), (.bipush 6, 2, 6, 0), (.imul, 1, 0, 0), (.aload_n 0, 1, 0, 0), (.getfield 30, 3, 6, 12), (.iconst 1, 1, 1, 0), (.iaload, 1, 0, 0), (.iadd, 1, 0, 0), (.aload_n 0, 1, 0, 0), (.getfield 30, 3, 6, 12), (.iconst 2, 1, 2, 0), (.iaload, 1, 0, 0), (.iastore, 1, 0, 0)]
def kb_97_321 : List pb_El := [(.return_, 1, 0, 0)]
/-- Reader.store(I)V -/
def kc_97 : List (Nat × List pb_El) := [(0, kb_97_0), (39, kb_97_39), (83, kb_97_83), (124, kb_97_124), (187, kb_97_187), (239, kb_97_239), (291, kb_97_291), (321, kb_97_321)]
def kb_98_0 : List pb_El := [(.aload_n 0, 1, 0, 0), (.getfield 81, 3, 6, 10), (.aload_n 0, 1, 0, 0), (.getfield 12, 3, 6, 0), (.getfield 142, 3, 0, 0), (.if_icmp .gt 17, 3, 28, 0), (.aload_n 0, 1, 0, 0), (.getfield 84, 3, 6, 11), (.aload_n 0, 1, 0, 0), (.getfield 12, 3, 6, 0), (.getfield 143, 3, 0, 1), (.if_icmp .le 7, 3, 32, 0)]
def kb_98_28 : List pb_El := [(.iconst 1, 1, 1, 0), (.goto 4, 3, 33, 0)]
def kb_98_32 : List pb_El := [(.iconst 0, 1, 0, 0)]
def kb_98_33 : List pb_El := [(.ireturn, 1, 0, 0)]
/-- Reader.toldOfMissing()Z -/
def kc_98 : List (Nat × List pb_El) := [(0, kb_98_0), (28, kb_98_28), (32, kb_98_32), (33, kb_98_33)]
def kb_99_0 : List pb_El := [(.aload_n 0, 1, 0, 0), (.invokespecial 3, 3, 1001, 1), (.aload_n 0, 1, 0, 0), (.iconst 2, 1, 2, 0), (.anewarray 9, 3, 15, 0), (.dup, 1, 0, 0), (.iconst 0, 1, 0, 0), (.new 9, 3, 0, 0), (.dup, 1, 0, 0), (.invokespecial 11, 3, 0, 1), (.aastore, 1, 15, 0), (.dup, 1, 0, 0), (.iconst 1, 1, 1, 0), (.new 9, 3, 0, 0), (.dup, 1, 0, 0), (.invokespecial 11, 3, 0, 1), (.aastore, 1, 15, 0), (.putfield 12, 3, 7, 0), (.aload_n 0, 1, 0, 0), (.iconst 2, 1, 2, 0), (.anewarray 18, 3, 16, 0), (.dup, 1, 0, 0), (.iconst 0, 1, 0, 0), (.new 18, 3, 4, 0), (.dup, 1, 0, 0), (.bipush 40, 2, 40, 0), (.iconst 3, 1, 3, 0), (.invokespecial 20, 3, 70, 3), (.aastore, 1, 16, 4), (.dup, 1, 0, 0), (.iconst 1, 1, 1, 0), (.new 18, 3, 4, 0), (.dup, 1, 0, 0), (.bipush 40, 2, 40, 0), (.iconst 3, 1, 3, 0), (.invokespecial 20, 3, 70, 3), (.aastore, 1, 16, 4), (.putfield 23, 3, 7, 1), (.aload_n 0, 1, 0, 0), (.iconst 2, 1, 2, 0), (.anewarray 18, 3, 16, 0), (.dup, 1, 0, 0), (.iconst 0, 1, 0, 0), (.new 18, 3, 4, 0), (.dup, 1, 0, 0), (.bipush 8, 2, 8, 0), (.iconst 2, 1, 2, 0), (.invokespecial 20, 3, 70, 3), (.aastore, 1, 16, 4), (.dup, 1, 0, 0), (.iconst 1, 1, 1, 0), (.new 18, 3, 4, 0), (.dup, 1, 0, 0), (.bipush 8, 2, 8, 0), (.iconst 2, 1, 2, 0), (.invokespecial 20, 3, 70, 3), (.aastore, 1, 16, 4), (.putfield 27, 3, 7, 2), (.aload_n 0, 1, 0, 0), (.iconst 3, 1, 3, 0), (.newarray .int, 2, 12, 0), (.putfield 30, 3, 7, 3), (.aload_n 0, 1, 0, 0), (.sipush 600, 3, 600, 0), (.newarray .byte, 2, 13, 0), (.putfield 34, 3, 7, 4), (.aload_n 0, 1, 0, 0), (.iconst (-1), 1, 1, 1), (.putfield 38, 3, 7, 7), (.return_, 1, 0, 0)]
/-- Told.<init>()V -/
def kc_99 : List (Nat × List pb_El) := [(0, kb_99_0)]
def kb_100_0 : List pb_El := [(.bipush 24, 2, 24, 0), (.istore_n 2, 1, 0, 0)]
def kb_100_3 : List pb_El := [(.iload_n 2, 1, 0, 0), (.ifCond .lt 42, 3, 46, 0), (.aload_n 0, 1, 0, 0), (.getfield 42, 3, 7, 5), (.sipush 600, 3, 600, 0), (.if_icmp .ge 32, 3, 46, 0), (.aload_n 0, 1, 0, 0), (.getfield 34, 3, 7, 4), (.aload_n 0, 1, 0, 0), (.getfield 42, 3, 7, 5), (.iload_n 1, 1, 0, 0), (.iload_n 2, 1, 0, 0), (.iushr, 1, 0, 0), (.i2b, 1, 0, 0), (.bastore, 1, 13, 0), (.aload_n 0, 1, 0, 0), (.dup, 1, 0, 0), (.getfield 42, 3, 7, 5), (.iconst 1, 1, 1, 0), (.iadd, 1, 0, 0), (.putfield 42, 3, 7, 5), (.iinc 2 (-8), 3, 8, 1), (.goto (-40), 3, 3, 0)]
def kb_100_46 : List pb_El := [(.return_, 1, 0, 0)]
/-- Told.append(I)V -/
def kc_100 : List (Nat × List pb_El) := [(0, kb_100_0), (3, kb_100_3), (46, kb_100_46)]
def kb_101_0 : List pb_El := [(.iconst 0, 1, 0, 0), (.istore_n 2, 1, 0, 0)]
def kb_101_2 : List pb_El := [(.iload_n 2, 1, 0, 0), (.iconst 2, 1, 2, 0), (.if_icmp .ge 54, 3, 58, 0), (.aload_n 0, 1, 0, 0), (.getfield 12, 3, 7, 0), (.iload_n 2, 1, 0, 0), (.aaload, 1, 15, 0), (.aload_n 1, 1, 0, 0), (.getfield 12, 3, 7, 0), (.iload_n 2, 1, 0, 0), (.aaload, 1, 15, 0), (.invokevirtual 45, 3, 2, 2), (.aload_n 0, 1, 0, 0), (.getfield 23, 3, 7, 1), (.iload_n 2, 1, 0, 0), (.aaload, 1, 16, 4), (.aload_n 1, 1, 0, 0), (.getfield 23, 3, 7, 1), (.iload_n 2, 1, 0, 0), (.aaload, 1, 16, 4), (.invokevirtual 49, 3, 73, 2), (.aload_n 0, 1, 0, 0), (.getfield 27, 3, 7, 2), (.iload_n 2, 1, 0, 0), (.aaload, 1, 16, 4), (.aload_n 1, 1, 0, 0), (.getfield 27, 3, 7, 2), (.iload_n 2, 1, 0, 0), (.aaload, 1, 16, 4), (.invokevirtual 49, 3, 73, 2), (.iinc 2 1, 3, 1, 0), (.goto (-53), 3, 2, 0)]
def kb_101_58 : List pb_El := [(.aload_n 1, 1, 0, 0), (.getfield 30, 3, 7, 3), (.iconst 0, 1, 0, 0), (.aload_n 0, 1, 0, 0), (.getfield 30, 3, 7, 3), (.iconst 0, 1, 0, 0), (.iconst 3, 1, 3, 0), (.invokestatic 52, 3, 1000, 12), (.aload_n 1, 1, 0, 0), (.getfield 34, 3, 7, 4), (.iconst 0, 1, 0, 0), (.aload_n 0, 1, 0, 0), (.getfield 34, 3, 7, 4), (.iconst 0, 1, 0, 0), (.sipush 600, 3, 600, 0), (.invokestatic 52, 3, 1000, 13), (.aload_n 0, 1, 0, 0), (.aload_n 1, 1, 0, 0), (.getfield 42, 3, 7, 5), (.putfield 42, 3, 7, 5), (.aload_n 0, 1, 0, 0), (.aload_n 1, 1, 0, 0), (.getfield 58, 3, 7, 6), (.putfield 58, 3, 7, 6), (.aload_n 0, 1, 0, 0), (.aload_n 1, 1, 0, 0), (.getfield 38, 3, 7, 7), (.putfield 38, 3, 7, 7), (.return_, 1, 0, 0)]
/-- Told.take(LPointedBench$Told;)V -/
def kc_101 : List (Nat × List pb_El) := [(0, kb_101_0), (2, kb_101_2), (58, kb_101_58)]
def kb_102_0 : List pb_El := [(.iload_n 1, 1, 0, 0), (.ifCond .lt 8, 3, 9, 0), (.iload_n 1, 1, 0, 0), (.iconst 3, 1, 3, 0), (.if_icmp .lt 5, 3, 11, 0)]
def kb_102_9 : List pb_El := [(.iconst (-1), 1, 1, 1), (.ireturn, 1, 0, 0)]
def kb_102_11 : List pb_El := [(.iload_n 2, 1, 0, 0), (.iconst (-1), 1, 1, 1), (.if_icmp .ne 24, 3, 37, 0), (.aload_n 0, 1, 0, 0), (.getfield 30, 3, 7, 3), (.iload_n 1, 1, 0, 0), (.iaload, 1, 0, 0), (.iconst 2, 1, 2, 0), (.if_icmp .ge 12, 3, 35, 0), (.aload_n 0, 1, 0, 0), (.getfield 30, 3, 7, 3), (.iload_n 1, 1, 0, 0), (.iaload, 1, 0, 0), (.goto 4, 3, 36, 0)]
def kb_102_35 : List pb_El := [(.iconst (-1), 1, 1, 1)]
def kb_102_36 : List pb_El := [(.ireturn, 1, 0, 0)]
def kb_102_37 : List pb_El := [(.aload_n 0, 1, 0, 0), (.iload_n 1, 1, 0, 0), (.iload_n 2, 1, 0, 0), (.invokevirtual 61, 3, 103, 3), (.ifCond .eq 7, 3, 50, 0), (.iload_n 2, 1, 0, 0), (.goto 4, 3, 51, 0)]
def kb_102_50 : List pb_El := [(.iconst (-1), 1, 1, 1)]
def kb_102_51 : List pb_El := [(.ireturn, 1, 0, 0)]
/-- Told.placeFor(II)I -/
def kc_102 : List (Nat × List pb_El) := [(0, kb_102_0), (9, kb_102_9), (11, kb_102_11), (35, kb_102_35), (36, kb_102_36), (37, kb_102_37), (50, kb_102_50), (51, kb_102_51)]
def kb_103_0 : List pb_El := [(.iload_n 2, 1, 0, 0), (.ifCond .lt 17, 3, 18, 0), (.iload_n 2, 1, 0, 0), (.aload_n 0, 1, 0, 0), (.getfield 30, 3, 7, 3), (.iload_n 1, 1, 0, 0), (.iaload, 1, 0, 0), (.if_icmp .ge 7, 3, 18, 0), (.iconst 1, 1, 1, 0), (.goto 4, 3, 19, 0)]
def kb_103_18 : List pb_El := [(.iconst 0, 1, 0, 0)]
def kb_103_19 : List pb_El := [(.ireturn, 1, 0, 0)]
/-- Told.has(II)Z -/
def kc_103 : List (Nat × List pb_El) := [(0, kb_103_0), (18, kb_103_18), (19, kb_103_19)]
def kb_104_0 : List pb_El := [(.iload_n 1, 1, 0, 0), (.ifCond .ne 19, 3, 20, 0), (.aload_n 0, 1, 0, 0), (.getfield 12, 3, 7, 0), (.iload_n 2, 1, 0, 0), (.aaload, 1, 15, 0), (.aload_n 3, 1, 0, 0), (.getfield 65, 3, 6, 0), (.invokevirtual 45, 3, 2, 2), (.goto 37, 3, 54, 0)]
def kb_104_20 : List pb_El := [(.iload_n 1, 1, 0, 0), (.iconst 1, 1, 1, 0), (.if_icmp .ne 19, 3, 41, 0), (.aload_n 0, 1, 0, 0), (.getfield 23, 3, 7, 1), (.iload_n 2, 1, 0, 0), (.aaload, 1, 16, 4), (.aload_n 3, 1, 0, 0), (.getfield 71, 3, 6, 1), (.invokevirtual 49, 3, 73, 2), (.goto 16, 3, 54, 0)]
def kb_104_41 : List pb_El := [(.aload_n 0, 1, 0, 0), (.getfield 27, 3, 7, 2), (.iload_n 2, 1, 0, 0), (.aaload, 1, 16, 4), (.aload_n 3, 1, 0, 0), (.getfield 75, 3, 6, 2), (.invokevirtual 49, 3, 73, 2)]
def kb_104_54 : List pb_El := [(.aload_n 0, 1, 0, 0), (.getfield 30, 3, 7, 3), (.iload_n 1, 1, 0, 0), (.aload_n 0, 1, 0, 0), (.getfield 30, 3, 7, 3), (.iload_n 1, 1, 0, 0), (.iaload, 1, 0, 0), (.iload_n 2, 1, 0, 0), (.iconst 1, 1, 1, 0), (.iadd, 1, 0, 0), (.invokestatic 78, 3, 1003, 2), (.iastore, 1, 0, 0), (.return_, 1, 0, 0)]
/-- Told.keep(IILPointedBench$Reader;)V -/
def kc_104 : List (Nat × List pb_El) := [(0, kb_104_0), (20, kb_104_20), (41, kb_104_41), (54, kb_104_54)]
def kb_105_0 : List pb_El := [(.aload_n 0, 1, 0, 0), (.iconst 0, 1, 0, 0), (.iload_n 1, 1, 0, 0), (.invokevirtual 61, 3, 103, 3), (.ifCond .eq 12, 3, 18, 0), (.aload_n 0, 1, 0, 0), (.getfield 12, 3, 7, 0), (.iload_n 1, 1, 0, 0), (.aaload, 1, 15, 0), (.goto 4, 3, 19, 0)]
def kb_105_18 : List pb_El := [(.aconst_null, 1, 0, 0)]
def kb_105_19 : List pb_El := [(.areturn, 1, 0, 0)]
/-- Told.countyAt(I)LPointedBench$County; -/
def kc_105 : List (Nat × List pb_El) := [(0, kb_105_0), (18, kb_105_18), (19, kb_105_19)]
def kb_106_0 : List pb_El := [(.aload_n 0, 1, 0, 0), (.iconst 1, 1, 1, 0), (.iload_n 1, 1, 0, 0), (.invokevirtual 61, 3, 103, 3), (.ifCond .eq 12, 3, 18, 0), (.aload_n 0, 1, 0, 0), (.getfield 23, 3, 7, 1), (.iload_n 1, 1, 0, 0), (.aaload, 1, 16, 4), (.goto 4, 3, 19, 0)]
def kb_106_18 : List pb_El := [(.aconst_null, 1, 0, 0)]
def kb_106_19 : List pb_El := [(.areturn, 1, 0, 0)]
/-- Told.yearAt(I)LPointedBench$Lines; -/
def kc_106 : List (Nat × List pb_El) := [(0, kb_106_0), (18, kb_106_18), (19, kb_106_19)]
def kb_107_0 : List pb_El := [(.aload_n 0, 1, 0, 0), (.iconst 2, 1, 2, 0), (.iload_n 1, 1, 0, 0), (.invokevirtual 61, 3, 103, 3), (.ifCond .eq 12, 3, 18, 0), (.aload_n 0, 1, 0, 0), (.getfield 27, 3, 7, 2), (.iload_n 1, 1, 0, 0), (.aaload, 1, 16, 4), (.goto 4, 3, 19, 0)]
def kb_107_18 : List pb_El := [(.aconst_null, 1, 0, 0)]
def kb_107_19 : List pb_El := [(.areturn, 1, 0, 0)]
/-- Told.logAt(I)LPointedBench$Lines; -/
def kc_107 : List (Nat × List pb_El) := [(0, kb_107_0), (18, kb_107_18), (19, kb_107_19)]
def kb_108_0 : List pb_El := [(.aload_n 0, 1, 0, 0), (.invokespecial 3, 3, 1001, 1), (.aload_n 0, 1, 0, 0), (.new 9, 3, 0, 0), (.dup, 1, 0, 0), (.invokespecial 11, 3, 0, 1), (.putfield 12, 3, 8, 0), (.aload_n 0, 1, 0, 0), (.new 18, 3, 5, 0), (.dup, 1, 0, 0), (.invokespecial 20, 3, 75, 1), (.putfield 21, 3, 8, 1), (.return_, 1, 0, 0)]
/-- Trial.<init>()V -/
def kc_108 : List (Nat × List pb_El) := [(0, kb_108_0)]
def kb_109_0 : List pb_El := [(.aload_n 0, 1, 0, 0), (.getfield 21, 3, 8, 1), (.aload_n 0, 1, 0, 0), (.getfield 12, 3, 8, 0), (.invokevirtual 25, 3, 76, 2), (.aload_n 0, 1, 0, 0), (.getfield 21, 3, 8, 1), (.bipush 63, 2, 63, 0), (.invokevirtual 29, 3, 77, 2), (.ireturn, 1, 0, 0)]
/-- Trial.chosen()I -/
def kc_109 : List (Nat × List pb_El) := [(0, kb_109_0)]
def kb_110_0 : List pb_El := [(.aload_n 0, 1, 0, 0), (.getfield 21, 3, 8, 1), (.aload_n 0, 1, 0, 0), (.getfield 12, 3, 8, 0), (.invokevirtual 25, 3, 76, 2), (.aload_n 0, 1, 0, 0), (.getfield 21, 3, 8, 1), (.getfield 33, 3, 5, 0), (.ireturn, 1, 0, 0)]
/-- Trial.voters()I -/
def kc_110 : List (Nat × List pb_El) := [(0, kb_110_0)]
def kb_111_0 : List pb_El := [(.aload_n 0, 1, 0, 0), (.getfield 12, 3, 8, 0), (.aload_n 1, 1, 0, 0), (.invokevirtual 37, 3, 2, 2), (.iconst 0, 1, 0, 0), (.istore_n 3, 1, 0, 0)]
def kb_111_10 : List pb_El := [(.iload_n 3, 1, 0, 0), (.aload_n 0, 1, 0, 0), (.getfield 12, 3, 8, 0), (.getfield 40, 3, 0, 1), (.if_icmp .ge 46, 3, 64, 0), (.aload_n 0, 1, 0, 0), (.getfield 12, 3, 8, 0), (.getfield 43, 3, 0, 4), (.iload_n 3, 1, 0, 0), (.dup2, 1, 0, 0), (.iaload, 1, 0, 0), (.iload_n 2, 1, 0, 0), (.iadd, 1, 0, 0), (.iastore, 1, 0, 0), (.aload_n 0, 1, 0, 0), (.getfield 12, 3, 8, 0), (.getfield 47, 3, 0, 5), (.iload_n 3, 1, 0, 0), (.iconst 0, 1, 0, 0), (.aload_n 0, 1, 0, 0), (.getfield 12, 3, 8, 0), (.getfield 47, 3, 0, 5), (.iload_n 3, 1, 0, 0), (.iaload, 1, 0, 0), (.iload_n 2, 1, 0, 0), (.isub, 1, 0, 0), (.invokestatic 50, 3, 1003, 2), (.iastore, 1, 0, 0), (.iinc 3 1, 3, 1, 0), (.goto (-51), 3, 10, 0)]
def kb_111_64 : List pb_El := [(.return_, 1, 0, 0)]
/-- Trial.ageBy(LPointedBench$County;I)V -/
def kc_111 : List (Nat × List pb_El) := [(0, kb_111_0), (10, kb_111_10), (64, kb_111_64)]
def kb_112_0 : List pb_El := [(.aload_n 0, 1, 0, 0), (.getfield 12, 3, 8, 0), (.aload_n 1, 1, 0, 0), (.invokevirtual 37, 3, 2, 2), (.aload_n 1, 1, 0, 0), (.getfield 56, 3, 0, 3), (.iload_n 2, 1, 0, 0), (.iaload, 1, 0, 0), (.istore_n 3, 1, 0, 0), (.iconst (-1), 1, 1, 1), (.istore 4, 2, 0, 0), (.iconst 0, 1, 0, 0), (.istore 5, 2, 0, 0)]
def kb_112_21 : List pb_El := [(.iload 5, 2, 0, 0), (.bipush 63, 2, 63, 0), (.if_icmp .gt 60, 3, 85, 0), (.iload 5, 2, 0, 0), (.iload_n 3, 1, 0, 0), (.iand, 1, 0, 0), (.ifCond .ne 47, 3, 79, 0), (.iload 4, 2, 0, 0), (.iconst (-1), 1, 1, 1), (.if_icmp .eq 16, 3, 54, 0), (.iload 5, 2, 0, 0), (.invokestatic 59, 3, 305, 1), (.iload 4, 2, 0, 0), (.invokestatic 59, 3, 305, 1), (.if_icmp .ge 28, 3, 79, 0)]
def kb_112_54 : List pb_El := [(.aload_n 0, 1, 0, 0), (.getfield 12, 3, 8, 0), (.getfield 56, 3, 0, 3), (.iload_n 2, 1, 0, 0), (.iload_n 3, 1, 0, 0), (.iload 5, 2, 0, 0), (.ior, 1, 0, 0), (.iastore, 1, 0, 0), (.aload_n 0, 1, 0, 0), (.invokevirtual 64, 3, 109, 1), (.iload_n 2, 1, 0, 0), (.if_icmp .ne 7, 3, 79, 0), (.iload 5, 2, 0, 0), (.istore 4, 2, 0, 0)]
def kb_112_79 : List pb_El := [(.iinc 5 1, 3, 1, 0), (.goto (-61), 3, 21, 0)]
def kb_112_85 : List pb_El := [(.iload 4, 2, 0, 0), (.ireturn, 1, 0, 0)]
/-- Trial.fewestShown(LPointedBench$County;I)I -/
def kc_112 : List (Nat × List pb_El) := [(0, kb_112_0), (21, kb_112_21), (54, kb_112_54), (79, kb_112_79), (85, kb_112_85)]
def kb_113_0 : List pb_El := [(.iconst (-1), 1, 1, 1), (.istore_n 3, 1, 0, 0), (.iconst 0, 1, 0, 0), (.istore 4, 2, 0, 0), (.iconst 0, 1, 0, 0), (.istore 5, 2, 0, 0)]
def kb_113_8 : List pb_El := [(.iload 5, 2, 0, 0), (.bipush 6, 2, 6, 0), (.if_icmp .ge 119, 3, 131, 0), (.aload_n 0, 1, 0, 0), (.getfield 12, 3, 8, 0), (.aload_n 1, 1, 0, 0), (.invokevirtual 37, 3, 2, 2), (.iconst 0, 1, 0, 0), (.istore 6, 2, 0, 0)]
def kb_113_26 : List pb_El := [(.iload 6, 2, 0, 0), (.aload_n 0, 1, 0, 0), (.getfield 12, 3, 8, 0), (.getfield 68, 3, 0, 0), (.if_icmp .ge 28, 3, 63, 0), (.aload_n 0, 1, 0, 0), (.getfield 12, 3, 8, 0), (.getfield 56, 3, 0, 3), (.iload 6, 2, 0, 0), (.dup2, 1, 0, 0), (.iaload, 1, 0, 0), (.iconst 1, 1, 1, 0), (.iload 5, 2, 0, 0), (.ishl, 1, 0, 0), (.iconst (-1), 1, 1, 1), (.ixor, 1, 0, 0), (.iand, 1, 0, 0), (.iastore, 1, 0, 0), (.iinc 6 1, 3, 1, 0), (.goto (-34), 3, 26, 0)]
def kb_113_63 : List pb_El := [(.iconst 0, 1, 0, 0), (.istore 6, 2, 0, 0), (.iconst 0, 1, 0, 0), (.istore 7, 2, 0, 0)]
def kb_113_69 : List pb_El := [(.iload 7, 2, 0, 0), (.aload_n 0, 1, 0, 0), (.getfield 12, 3, 8, 0), (.getfield 40, 3, 0, 1), (.if_icmp .ge 34, 3, 112, 0), (.aload_n 0, 1, 0, 0), (.getfield 12, 3, 8, 0), (.iload 7, 2, 0, 0), (.bipush 63, 2, 63, 0), (.invokevirtual 71, 3, 11, 3), (.aload_n 1, 1, 0, 0), (.iload 7, 2, 0, 0), (.bipush 63, 2, 63, 0), (.invokevirtual 71, 3, 11, 3), (.if_icmp .eq 6, 3, 106, 0), (.iinc 6 1, 3, 1, 0)]
def kb_113_106 : List pb_El := [(.iinc 7 1, 3, 1, 0), (.goto (-40), 3, 69, 0)]
def kb_113_112 : List pb_El := [(.iload 6, 2, 0, 0), (.iload_n 3, 1, 0, 0), (.if_icmp .le 10, 3, 125, 0), (.iload 6, 2, 0, 0), (.istore_n 3, 1, 0, 0), (.iload 5, 2, 0, 0), (.istore 4, 2, 0, 0)]
def kb_113_125 : List pb_El := [(.iinc 5 1, 3, 1, 0), (.goto (-120), 3, 8, 0)]
def kb_113_131 : List pb_El := [(.iload_n 2, 1, 0, 0), (.ifCond .eq 7, 3, 139, 0), (.iload_n 3, 1, 0, 0), (.goto 5, 3, 141, 0)]
def kb_113_139 : List pb_El := [(.iload 4, 2, 0, 0)]
def kb_113_141 : List pb_El := [(.ireturn, 1, 0, 0)]
/-- Trial.banned(LPointedBench$County;Z)I -/
def kc_113 : List (Nat × List pb_El) := [(0, kb_113_0), (8, kb_113_8), (26, kb_113_26), (63, kb_113_63), (69, kb_113_69), (106, kb_113_106), (112, kb_113_112), (125, kb_113_125), (131, kb_113_131), (139, kb_113_139), (141, kb_113_141)]
def kb_114_0 : List pb_El := [(.aload_n 0, 1, 0, 0), (.getfield 12, 3, 8, 0), (.aload_n 1, 1, 0, 0), (.invokevirtual 37, 3, 2, 2), (.aload_n 1, 1, 0, 0), (.getfield 56, 3, 0, 3), (.iload_n 2, 1, 0, 0), (.iaload, 1, 0, 0), (.aload_n 1, 1, 0, 0), (.getfield 56, 3, 0, 3), (.iload_n 3, 1, 0, 0), (.iaload, 1, 0, 0), (.iconst (-1), 1, 1, 1), (.ixor, 1, 0, 0), (.iand, 1, 0, 0), (.istore 4, 2, 0, 0), (.aload_n 1, 1, 0, 0), (.getfield 56, 3, 0, 3), (.iload_n 3, 1, 0, 0), (.iaload, 1, 0, 0), (.aload_n 1, 1, 0, 0), (.getfield 56, 3, 0, 3), (.iload_n 2, 1, 0, 0), (.iaload, 1, 0, 0), (.iconst (-1), 1, 1, 1), (.ixor, 1, 0, 0), (.iand, 1, 0, 0), (.istore 5, 2, 0, 0), (.iconst 0, 1, 0, 0), (.istore 6, 2, 0, 0)]
def kb_114_45 : List pb_El := [(.iload 6, 2, 0, 0), (.bipush 6, 2, 6, 0), (.if_icmp .ge 109, 3, 158, 0), (.iconst 0, 1, 0, 0), (.istore 7, 2, 0, 0)]
def kb_114_55 : List pb_El := [(.iload 7, 2, 0, 0), (.bipush 6, 2, 6, 0), (.if_icmp .ge 93, 3, 152, 0), (.iload 4, 2, 0, 0), (.iload 6, 2, 0, 0), (.ishr, 1, 0, 0), (.iconst 1, 1, 1, 0), (.iand, 1, 0, 0), (.ifCond .eq 77, 3, 146, 0), (.iload 5, 2, 0, 0), (.iload 7, 2, 0, 0), (.ishr, 1, 0, 0), (.iconst 1, 1, 1, 0), (.iand, 1, 0, 0), (.ifCond .eq 67, 3, 146, 0), (.iconst 1, 1, 1, 0), (.iload 6, 2, 0, 0), (.ishl, 1, 0, 0), (.iconst 1, 1, 1, 0), (.iload 7, 2, 0, 0), (.ishl, 1, 0, 0), (.ior, 1, 0, 0), (.istore 8, 2, 0, 0), (.aload_n 0, 1, 0, 0), (.getfield 12, 3, 8, 0), (.getfield 56, 3, 0, 3), (.iload_n 2, 1, 0, 0), (.aload_n 1, 1, 0, 0), (.getfield 56, 3, 0, 3), (.iload_n 2, 1, 0, 0), (.iaload, 1, 0, 0), (.iload 8, 2, 0, 0), (.ixor, 1, 0, 0), (.iastore, 1, 0, 0), (.aload_n 0, 1, 0, 0), (.getfield 12, 3, 8, 0), (.getfield 56, 3, 0, 3), (.iload_n 3, 1, 0, 0), (.aload_n 1, 1, 0, 0), (.getfield 56, 3, 0, 3), (.iload_n 3, 1, 0, 0), (.iaload, 1, 0, 0), (.iload 8, 2, 0, 0), (.ixor, 1, 0, 0), (.iastore, 1, 0, 0), (.aload_n 0, 1, 0, 0), (.invokevirtual 64, 3, 109, 1), (.iload_n 2, 1, 0, 0), (.if_icmp .ne 12, 3, 146, 0), (.bipush 10, 2, 10, 0), (.iload 6, 2, 0, 0), (.imul, 1, 0, 0), (.iload 7, 2, 0, 0), (.iadd, 1, 0, 0), (.ireturn, 1, 0, 0)]
def kb_114_146 : List pb_El := [(.iinc 7 1, 3, 1, 0), (.goto (-94), 3, 55, 0)]
def kb_114_152 : List pb_El := [(.iinc 6 1, 3, 1, 0), (.goto (-110), 3, 45, 0)]
def kb_114_158 : List pb_El := [(.iconst (-1), 1, 1, 1), (.ireturn, 1, 0, 0)]
/-- Trial.traded(LPointedBench$County;II)I -/
def kc_114 : List (Nat × List pb_El) := [(0, kb_114_0), (45, kb_114_45), (55, kb_114_55), (146, kb_114_146), (152, kb_114_152), (158, kb_114_158)]
def kb_115_0 : List pb_El := [(.aload_n 0, 1, 0, 0), (.getfield 12, 3, 8, 0), (.aload_n 1, 1, 0, 0), (.invokevirtual 37, 3, 2, 2), (.aload_n 0, 1, 0, 0), (.iload_n 2, 1, 0, 0), (.putfield 74, 3, 8, 2), (.aload_n 0, 1, 0, 0), (.iload_n 3, 1, 0, 0), (.putfield 77, 3, 8, 3), (.aload_n 0, 1, 0, 0), (.iload 4, 2, 0, 0), (.putfield 80, 3, 8, 4), (.iload 5, 2, 0, 0), (.ifCond .ne 11, 3, 37, 0), (.aload_n 0, 1, 0, 0), (.iconst 0, 1, 0, 0), (.iconst (-1), 1, 1, 1), (.iconst 1, 1, 1, 0), (.invokevirtual 83, 3, 117, 4), (.ireturn, 1, 0, 0)]
def kb_115_37 : List pb_El := [(.bipush (-2), 2, 2, 1), (.istore 6, 2, 0, 0), (.iconst (-1), 1, 1, 1), (.istore 7, 2, 0, 0), (.iconst 0, 1, 0, 0), (.istore 8, 2, 0, 0)]
def kb_115_47 : List pb_El := [(.iload 8, 2, 0, 0), (.bipush 6, 2, 6, 0), (.if_icmp .gt 61, 3, 112, 0), (.iload 4, 2, 0, 0), (.ifCond .le 56, 3, 112, 0), (.iload 6, 2, 0, 0), (.iconst 1, 1, 1, 0), (.if_icmp .ge 50, 3, 112, 0), (.aload_n 0, 1, 0, 0), (.iload_n 2, 1, 0, 0), (.iload 8, 2, 0, 0), (.invokevirtual 87, 3, 116, 3), (.ifCond .eq 34, 3, 106, 0), (.aload_n 0, 1, 0, 0), (.iconst 0, 1, 0, 0), (.iload 8, 2, 0, 0), (.iload 6, 2, 0, 0), (.iconst (-1), 1, 1, 1), (.invokestatic 50, 3, 1003, 2), (.iconst 1, 1, 1, 0), (.invokevirtual 91, 3, 118, 5), (.istore 9, 2, 0, 0), (.iload 9, 2, 0, 0), (.iload 6, 2, 0, 0), (.if_icmp .le 11, 3, 106, 0), (.iload 9, 2, 0, 0), (.istore 6, 2, 0, 0), (.iload 8, 2, 0, 0), (.istore 7, 2, 0, 0)]
def kb_115_106 : List pb_El := [(.iinc 8 1, 3, 1, 0), (.goto (-62), 3, 47, 0)]
def kb_115_112 : List pb_El := [(.iload 7, 2, 0, 0), (.ireturn, 1, 0, 0)]
/-- Trial.contest(LPointedBench$County;IIIZ)I -/
def kc_115 : List (Nat × List pb_El) := [(0, kb_115_0), (37, kb_115_37), (47, kb_115_47), (106, kb_115_106), (112, kb_115_112)]
def kb_116_0 : List pb_El := [(.iload_n 2, 1, 0, 0), (.bipush 6, 2, 6, 0), (.if_icmp .eq 19, 3, 22, 0), (.aload_n 0, 1, 0, 0), (.getfield 12, 3, 8, 0), (.getfield 56, 3, 0, 3), (.iload_n 1, 1, 0, 0), (.iaload, 1, 0, 0), (.iload_n 2, 1, 0, 0), (.ishr, 1, 0, 0), (.iconst 1, 1, 1, 0), (.iand, 1, 0, 0), (.ifCond .ne 7, 3, 26, 0)]
def kb_116_22 : List pb_El := [(.iconst 1, 1, 1, 0), (.goto 4, 3, 27, 0)]
def kb_116_26 : List pb_El := [(.iconst 0, 1, 0, 0)]
def kb_116_27 : List pb_El := [(.ireturn, 1, 0, 0)]
/-- Trial.canShow(II)Z -/
def kc_116 : List (Nat × List pb_El) := [(0, kb_116_0), (22, kb_116_22), (26, kb_116_26), (27, kb_116_27)]
def kb_117_0 : List pb_El := [(.iload_n 1, 1, 0, 0), (.aload_n 0, 1, 0, 0), (.getfield 80, 3, 8, 4), (.if_icmp .lt 37, 3, 42, 0), (.aload_n 0, 1, 0, 0), (.invokevirtual 64, 3, 109, 1), (.istore 4, 2, 0, 0), (.iload 4, 2, 0, 0), (.aload_n 0, 1, 0, 0), (.getfield 74, 3, 8, 2), (.if_icmp .ne 7, 3, 27, 0), (.iconst 1, 1, 1, 0), (.goto 17, 3, 41, 0)]
def kb_117_27 : List pb_El := [(.iload 4, 2, 0, 0), (.aload_n 0, 1, 0, 0), (.getfield 77, 3, 8, 3), (.if_icmp .ne 7, 3, 40, 0), (.iconst (-1), 1, 1, 1), (.goto 4, 3, 41, 0)]
def kb_117_40 : List pb_El := [(.iconst 0, 1, 0, 0)]
def kb_117_41 : List pb_El := [(.ireturn, 1, 0, 0)]
def kb_117_42 : List pb_El := [(.iload_n 1, 1, 0, 0), (.iconst 2, 1, 2, 0), (.irem, 1, 0, 0), (.ifCond .ne 7, 3, 52, 0), (.iconst 1, 1, 1, 0), (.goto 4, 3, 53, 0)]
def kb_117_52 : List pb_El := [(.iconst 0, 1, 0, 0)]
def kb_117_53 : List pb_El := [(.istore 4, 2, 0, 0), (.iload 4, 2, 0, 0), (.ifCond .eq 10, 3, 67, 0), (.aload_n 0, 1, 0, 0), (.getfield 74, 3, 8, 2), (.goto 7, 3, 71, 0)]
def kb_117_67 : List pb_El := [(.aload_n 0, 1, 0, 0), (.getfield 77, 3, 8, 3)]
def kb_117_71 : List pb_El := [(.istore 5, 2, 0, 0), (.iload_n 2, 1, 0, 0), (.istore 6, 2, 0, 0), (.iload_n 3, 1, 0, 0), (.istore 7, 2, 0, 0), (.iconst 0, 1, 0, 0), (.istore 8, 2, 0, 0)]
def kb_117_82 : List pb_El := [(.iload 8, 2, 0, 0), (.bipush 6, 2, 6, 0), (.if_icmp .gt 66, 3, 152, 0), (.iload 6, 2, 0, 0), (.iload 7, 2, 0, 0), (.if_icmp .ge 59, 3, 152, 0), (.aload_n 0, 1, 0, 0), (.iload 5, 2, 0, 0), (.iload 8, 2, 0, 0), (.invokevirtual 87, 3, 116, 3), (.ifCond .eq 42, 3, 146, 0), (.aload_n 0, 1, 0, 0), (.iload_n 1, 1, 0, 0), (.iload 8, 2, 0, 0), (.iload 6, 2, 0, 0), (.iload 7, 2, 0, 0), (.invokevirtual 91, 3, 118, 5), (.istore 9, 2, 0, 0), (.iload 4, 2, 0, 0), (.ifCond .eq 15, 3, 137, 0), (.iload 6, 2, 0, 0), (.iload 9, 2, 0, 0), (.invokestatic 50, 3, 1003, 2), (.istore 6, 2, 0, 0), (.goto 12, 3, 146, 0)]
def kb_117_137 : List pb_El := [(.iload 7, 2, 0, 0), (.iload 9, 2, 0, 0), (.invokestatic 95, 3, 1004, 2), (.istore 7, 2, 0, 0)]
def kb_117_146 : List pb_El := [(.iinc 8 1, 3, 1, 0), (.goto (-67), 3, 82, 0)]
def kb_117_152 : List pb_El := [(.iload 4, 2, 0, 0), (.ifCond .eq 8, 3, 162, 0), (.iload 6, 2, 0, 0), (.goto 5, 3, 164, 0)]
def kb_117_162 : List pb_El := [(.iload 7, 2, 0, 0)]
def kb_117_164 : List pb_El := [(.ireturn, 1, 0, 0)]
/-- Trial.outcome(III)I -/
def kc_117 : List (Nat × List pb_El) := [(0, kb_117_0), (27, kb_117_27), (40, kb_117_40), (41, kb_117_41), (42, kb_117_42), (52, kb_117_52), (53, kb_117_53), (67, kb_117_67), (71, kb_117_71), (82, kb_117_82), (137, kb_117_137), (146, kb_117_146), (152, kb_117_152), (162, kb_117_162), (164, kb_117_164)]
def kb_118_0 : List pb_El := [(.iload_n 1, 1, 0, 0), (.iconst 2, 1, 2, 0), (.irem, 1, 0, 0), (.ifCond .ne 10, 3, 13, 0), (.aload_n 0, 1, 0, 0), (.getfield 74, 3, 8, 2), (.goto 7, 3, 17, 0)]
def kb_118_13 : List pb_El := [(.aload_n 0, 1, 0, 0), (.getfield 77, 3, 8, 3)]
def kb_118_17 : List pb_El := [(.istore 5, 2, 0, 0), (.aload_n 0, 1, 0, 0), (.getfield 12, 3, 8, 0), (.getfield 56, 3, 0, 3), (.iload 5, 2, 0, 0), (.iaload, 1, 0, 0), (.istore 6, 2, 0, 0), (.iload_n 2, 1, 0, 0), (.bipush 6, 2, 6, 0), (.if_icmp .eq 19, 3, 53, 0), (.aload_n 0, 1, 0, 0), (.getfield 12, 3, 8, 0), (.getfield 56, 3, 0, 3), (.iload 5, 2, 0, 0), (.iload 6, 2, 0, 0), (.iconst 1, 1, 1, 0), (.iload_n 2, 1, 0, 0), (.ishl, 1, 0, 0), (.ior, 1, 0, 0), (.iastore, 1, 0, 0)]
def kb_118_53 : List pb_El := [(.aload_n 0, 1, 0, 0), (.iload_n 1, 1, 0, 0), (.iconst 1, 1, 1, 0), (.iadd, 1, 0, 0), (.iload_n 3, 1, 0, 0), (.iload 4, 2, 0, 0), (.invokevirtual 83, 3, 117, 4), (.istore 7, 2, 0, 0), (.aload_n 0, 1, 0, 0), (.getfield 12, 3, 8, 0), (.getfield 56, 3, 0, 3), (.iload 5, 2, 0, 0), (.iload 6, 2, 0, 0), (.iastore, 1, 0, 0), (.iload 7, 2, 0, 0), (.ireturn, 1, 0, 0)]
/-- Trial.outcomeBehind(IIII)I -/
def kc_118 : List (Nat × List pb_El) := [(0, kb_118_0), (13, kb_118_13), (17, kb_118_17), (53, kb_118_53)]
def kb_119_0 : List pb_El := [(.aload_n 0, 1, 0, 0), (.invokespecial 3, 3, 1001, 1), (.aload_n 0, 1, 0, 0), (.bipush 6, 2, 6, 0), (.newarray .int, 2, 12, 0), (.putfield 9, 3, 9, 0), (.return_, 1, 0, 0)]
/-- Wings.<init>()V -/
def kc_119 : List (Nat × List pb_El) := [(0, kb_119_0)]
def kb_120_0 : List pb_El := [(.iconst 0, 1, 0, 0), (.istore_n 2, 1, 0, 0)]
def kb_120_2 : List pb_El := [(.iload_n 2, 1, 0, 0), (.bipush 6, 2, 6, 0), (.if_icmp .gt 21, 3, 26, 0), (.aload_n 0, 1, 0, 0), (.aload_n 1, 1, 0, 0), (.iconst 0, 1, 0, 0), (.iload_n 2, 1, 0, 0), (.invokevirtual 15, 3, 121, 4), (.ifCond .eq 5, 3, 20, 0), (.iload_n 2, 1, 0, 0), (.ireturn, 1, 0, 0)]
def kb_120_20 : List pb_El := [(.iinc 2 1, 3, 1, 0), (.goto (-21), 3, 2, 0)]
def kb_120_26 : List pb_El := [(.bipush 6, 2, 6, 0), (.ireturn, 1, 0, 0)]
/-- Wings.divide(LPointedBench$County;)I -/
def kc_120 : List (Nat × List pb_El) := [(0, kb_120_0), (2, kb_120_2), (20, kb_120_20), (26, kb_120_26)]
def kb_121_0 : List pb_El := [(.iload_n 2, 1, 0, 0), (.aload_n 1, 1, 0, 0), (.getfield 19, 3, 0, 1), (.if_icmp .lt 5, 3, 10, 0), (.iconst 1, 1, 1, 0), (.ireturn, 1, 0, 0)]
def kb_121_10 : List pb_El := [(.aload_n 1, 1, 0, 0), (.getfield 25, 3, 0, 5), (.iload_n 2, 1, 0, 0), (.iaload, 1, 0, 0), (.ifCond .gt 21, 3, 37, 0), (.aload_n 0, 1, 0, 0), (.getfield 9, 3, 9, 0), (.iload_n 2, 1, 0, 0), (.bipush 6, 2, 6, 0), (.iastore, 1, 0, 0), (.aload_n 0, 1, 0, 0), (.aload_n 1, 1, 0, 0), (.iload_n 2, 1, 0, 0), (.iconst 1, 1, 1, 0), (.iadd, 1, 0, 0), (.iload_n 3, 1, 0, 0), (.invokevirtual 15, 3, 121, 4), (.ireturn, 1, 0, 0)]
def kb_121_37 : List pb_El := [(.iconst 0, 1, 0, 0), (.istore 4, 2, 0, 0)]
def kb_121_40 : List pb_El := [(.iload 4, 2, 0, 0), (.iload_n 3, 1, 0, 0), (.if_icmp .ge 40, 3, 83, 0), (.aload_n 0, 1, 0, 0), (.getfield 9, 3, 9, 0), (.iload_n 2, 1, 0, 0), (.iload 4, 2, 0, 0), (.iastore, 1, 0, 0), (.aload_n 0, 1, 0, 0), (.aload_n 1, 1, 0, 0), (.iload_n 2, 1, 0, 0), (.invokevirtual 28, 3, 122, 3), (.ifCond .eq 17, 3, 77, 0), (.aload_n 0, 1, 0, 0), (.aload_n 1, 1, 0, 0), (.iload_n 2, 1, 0, 0), (.iconst 1, 1, 1, 0), (.iadd, 1, 0, 0), (.iload_n 3, 1, 0, 0), (.invokevirtual 15, 3, 121, 4), (.ifCond .eq 5, 3, 77, 0), (.iconst 1, 1, 1, 0), (.ireturn, 1, 0, 0)]
def kb_121_77 : List pb_El := [(.iinc 4 1, 3, 1, 0), (.goto (-40), 3, 40, 0)]
def kb_121_83 : List pb_El := [(.iconst 0, 1, 0, 0), (.ireturn, 1, 0, 0)]
/-- Wings.place(LPointedBench$County;II)Z -/
def kc_121 : List (Nat × List pb_El) := [(0, kb_121_0), (10, kb_121_10), (37, kb_121_37), (40, kb_121_40), (77, kb_121_77), (83, kb_121_83)]
def kb_122_0 : List pb_El := [(.iconst 0, 1, 0, 0), (.istore_n 3, 1, 0, 0)]
def kb_122_2 : List pb_El := [(.iload_n 3, 1, 0, 0), (.iload_n 2, 1, 0, 0), (.if_icmp .ge 42, 3, 46, 0), (.aload_n 0, 1, 0, 0), (.getfield 9, 3, 9, 0), (.iload_n 3, 1, 0, 0), (.iaload, 1, 0, 0), (.aload_n 0, 1, 0, 0), (.getfield 9, 3, 9, 0), (.iload_n 2, 1, 0, 0), (.iaload, 1, 0, 0), (.if_icmp .ne 21, 3, 40, 0), (.aload_n 1, 1, 0, 0), (.getfield 32, 3, 0, 6), (.iload_n 3, 1, 0, 0), (.iaload, 1, 0, 0), (.aload_n 1, 1, 0, 0), (.getfield 32, 3, 0, 6), (.iload_n 2, 1, 0, 0), (.iaload, 1, 0, 0), (.iand, 1, 0, 0), (.ifCond .eq 5, 3, 40, 0), (.iconst 0, 1, 0, 0), (.ireturn, 1, 0, 0)]
def kb_122_40 : List pb_El := [(.iinc 3 1, 3, 1, 0), (.goto (-41), 3, 2, 0)]
def kb_122_46 : List pb_El := [(.iconst 1, 1, 1, 0), (.ireturn, 1, 0, 0)]
/-- Wings.goesWithThoseAhead(LPointedBench$County;I)Z -/
def kc_122 : List (Nat × List pb_El) := [(0, kb_122_0), (2, kb_122_2), (40, kb_122_40), (46, kb_122_46)]
def kb_123_0 : List pb_El := [(.aload_n 0, 1, 0, 0), (.invokespecial 1, 3, 1001, 1), (.aload_n 0, 1, 0, 0), (.new 7, 3, 7, 0), (.dup, 1, 0, 0), (.invokespecial 9, 3, 99, 1), (.putfield 10, 3, 10, 0), (.aload_n 0, 1, 0, 0), (.iconst 3, 1, 3, 0), (.anewarray 7, 3, 17, 0), (.dup, 1, 0, 0), (.iconst 0, 1, 0, 0), (.new 7, 3, 7, 0), (.dup, 1, 0, 0), (.invokespecial 9, 3, 99, 1), (.aastore, 1, 17, 7), (.dup, 1, 0, 0), (.iconst 1, 1, 1, 0), (.new 7, 3, 7, 0), (.dup, 1, 0, 0), (.invokespecial 9, 3, 99, 1), (.aastore, 1, 17, 7), (.dup, 1, 0, 0), (.iconst 2, 1, 2, 0), (.new 7, 3, 7, 0), (.dup, 1, 0, 0), (.invokespecial 9, 3, 99, 1), (.aastore, 1, 17, 7), (.putfield 16, 3, 10, 1), (.aload_n 0, 1, 0, 0), (.iconst 3, 1, 3, 0), (.newarray .boolean, 2, 14, 0), (.putfield 20, 3, 10, 2), (.aload_n 0, 1, 0, 0), (.new 24, 3, 6, 0), (.dup, 1, 0, 0), (.invokespecial 26, 3, 84, 1), (.putfield 27, 3, 10, 3), (.aload_n 0, 1, 0, 0), (.new 31, 3, 5, 0), (.dup, 1, 0, 0), (.invokespecial 33, 3, 75, 1), (.putfield 34, 3, 10, 4), (.aload_n 0, 1, 0, 0), (.new 38, 3, 8, 0), (.dup, 1, 0, 0), (.invokespecial 40, 3, 108, 1), (.putfield 41, 3, 10, 5), (.aload_n 0, 1, 0, 0), (.new 45, 3, 2, 0), (.dup, 1, 0, 0), (.invokespecial 47, 3, 49, 1), (.putfield 48, 3, 10, 6), (.aload_n 0, 1, 0, 0), (.new 52, 3, 9, 0), (.dup, 1, 0, 0), (.invokespecial 54, 3, 119, 1), (.putfield 55, 3, 10, 7), (.aload_n 0, 1, 0, 0), (.new 59, 3, 1, 0), (.dup, 1, 0, 0), (.invokespecial 61, 3, 27, 1), (.putfield 62, 3, 10, 8), (.aload_n 0, 1, 0, 0), (.new 66, 3, 3, 0), (.dup, 1, 0, 0), (.invokespecial 68, 3, 59, 1), (.putfield 69, 3, 10, 9), (.return_, 1, 0, 0)]
/-- PointedBench.<init>()V -/
def kc_123 : List (Nat × List pb_El) := [(0, kb_123_0)]
def kb_124_0 : List pb_El := [(.aload_n 0, 1, 0, 0), (.getfield 10, 3, 10, 0), (.getfield 73, 3, 7, 5), (.bipush 20, 2, 20, 0), (.iadd, 1, 0, 0), (.sipush 600, 3, 600, 0), (.if_icmp .le 5, 3, 18, 0), (.iconst (-1), 1, 1, 1), (.ireturn, 1, 0, 0)]
def kb_124_18 : List pb_El := [(.aload_n 0, 1, 0, 0), (.getfield 10, 3, 10, 0), (.iload_n 1, 1, 0, 0), (.invokevirtual 77, 3, 100, 2), (.aload_n 0, 1, 0, 0), (.getfield 10, 3, 10, 0), (.iload_n 2, 1, 0, 0), (.invokevirtual 77, 3, 100, 2), (.aload_n 0, 1, 0, 0), (.getfield 10, 3, 10, 0), (.iload_n 3, 1, 0, 0), (.invokevirtual 77, 3, 100, 2), (.aload_n 0, 1, 0, 0), (.getfield 10, 3, 10, 0), (.iload 4, 2, 0, 0), (.invokevirtual 77, 3, 100, 2), (.aload_n 0, 1, 0, 0), (.getfield 10, 3, 10, 0), (.iload 5, 2, 0, 0), (.invokevirtual 77, 3, 100, 2), (.aload_n 0, 1, 0, 0), (.getfield 10, 3, 10, 0), (.getfield 73, 3, 7, 5), (.ireturn, 1, 0, 0)]
/-- PointedBench.feed(IIIII)I -/
def kc_124 : List (Nat × List pb_El) := [(0, kb_124_0), (18, kb_124_18)]
def kb_125_0 : List pb_El := [(.iload_n 1, 1, 0, 0), (.ifCond .lt 14, 3, 15, 0), (.iload_n 1, 1, 0, 0), (.aload_n 0, 1, 0, 0), (.getfield 10, 3, 10, 0), (.getfield 73, 3, 7, 5), (.if_icmp .le 5, 3, 17, 0)]
def kb_125_15 : List pb_El := [(.iconst (-1), 1, 1, 1), (.ireturn, 1, 0, 0)]
def kb_125_17 : List pb_El := [(.aload_n 0, 1, 0, 0), (.getfield 10, 3, 10, 0), (.iload_n 1, 1, 0, 0), (.putfield 73, 3, 7, 5), (.iload_n 1, 1, 0, 0), (.ireturn, 1, 0, 0)]
/-- PointedBench.end(I)I -/
def kc_125 : List (Nat × List pb_El) := [(0, kb_125_0), (15, kb_125_15), (17, kb_125_17)]
def kb_126_0 : List pb_El := [(.aload_n 0, 1, 0, 0), (.getfield 10, 3, 10, 0), (.getfield 73, 3, 7, 5), (.istore_n 3, 1, 0, 0), (.aload_n 0, 1, 0, 0), (.getfield 10, 3, 10, 0), (.iconst 0, 1, 0, 0), (.putfield 73, 3, 7, 5), (.aload_n 0, 1, 0, 0), (.getfield 10, 3, 10, 0), (.iconst 0, 1, 0, 0), (.putfield 81, 3, 7, 6), (.aload_n 0, 1, 0, 0), (.getfield 10, 3, 10, 0), (.iconst (-1), 1, 1, 1), (.putfield 84, 3, 7, 7), (.aload_n 0, 1, 0, 0), (.getfield 10, 3, 10, 0), (.iload_n 1, 1, 0, 0), (.iload_n 2, 1, 0, 0), (.invokevirtual 87, 3, 102, 3), (.istore 4, 2, 0, 0), (.iload 4, 2, 0, 0), (.iconst (-1), 1, 1, 1), (.if_icmp .ne 6, 3, 52, 0), (.bipush (-2), 2, 2, 1), (.ireturn, 1, 0, 0)]
def kb_126_52 : List pb_El := [(.aload_n 0, 1, 0, 0), (.getfield 27, 3, 10, 3), (.iload_n 1, 1, 0, 0), (.aload_n 0, 1, 0, 0), (.getfield 10, 3, 10, 0), (.getfield 91, 3, 7, 4), (.iload_n 3, 1, 0, 0), (.invokevirtual 95, 3, 85, 4), (.aload_n 0, 1, 0, 0), (.getfield 10, 3, 10, 0), (.aload_n 0, 1, 0, 0), (.getfield 27, 3, 10, 3), (.getfield 99, 3, 6, 3), (.putfield 81, 3, 7, 6), (.aload_n 0, 1, 0, 0), (.getfield 10, 3, 10, 0), (.aload_n 0, 1, 0, 0), (.getfield 27, 3, 10, 3), (.getfield 100, 3, 6, 4), (.putfield 84, 3, 7, 7), (.aload_n 0, 1, 0, 0), (.getfield 27, 3, 10, 3), (.getfield 99, 3, 6, 3), (.ifCond .eq 5, 3, 108, 0), (.iconst (-1), 1, 1, 1), (.ireturn, 1, 0, 0)]
def kb_126_108 : List pb_El := [(.aload_n 0, 1, 0, 0), (.getfield 10, 3, 10, 0), (.iload_n 1, 1, 0, 0), (.iload 4, 2, 0, 0), (.aload_n 0, 1, 0, 0), (.getfield 27, 3, 10, 3), (.invokevirtual 101, 3, 104, 4), (.iload 4, 2, 0, 0), (.ireturn, 1, 0, 0)]
/-- PointedBench.text(II)I -/
def kc_126 : List (Nat × List pb_El) := [(0, kb_126_0), (52, kb_126_52), (108, kb_126_108)]
def kb_127_0 : List pb_El := [(.iload_n 1, 1, 0, 0), (.ifCond .ne 11, 3, 12, 0), (.aload_n 0, 1, 0, 0), (.getfield 10, 3, 10, 0), (.getfield 81, 3, 7, 6), (.ireturn, 1, 0, 0)]
def kb_127_12 : List pb_El := [(.iload_n 1, 1, 0, 0), (.iconst 1, 1, 1, 0), (.if_icmp .ne 13, 3, 27, 0), (.aload_n 0, 1, 0, 0), (.getfield 10, 3, 10, 0), (.getfield 84, 3, 7, 7), (.goto 4, 3, 28, 0)]
def kb_127_27 : List pb_El := [(.iconst (-1), 1, 1, 1)]
def kb_127_28 : List pb_El := [(.ireturn, 1, 0, 0)]
/-- PointedBench.fault(I)I -/
def kc_127 : List (Nat × List pb_El) := [(0, kb_127_0), (12, kb_127_12), (27, kb_127_27), (28, kb_127_28)]
def kb_128_0 : List pb_El := [(.aload_n 0, 1, 0, 0), (.getfield 10, 3, 10, 0), (.iload_n 1, 1, 0, 0), (.invokevirtual 105, 3, 105, 2), (.astore_n 3, 1, 0, 0), (.aload_n 3, 1, 0, 0), (.ifnonnull 7, 3, 17, 0), (.iconst (-1), 1, 1, 1), (.goto 8, 3, 22, 0)]
def kb_128_17 : List pb_El := [(.aload_n 3, 1, 0, 0), (.iload_n 2, 1, 0, 0), (.invokevirtual 109, 3, 5, 2)]
def kb_128_22 : List pb_El := [(.ireturn, 1, 0, 0)]
/-- PointedBench.county(II)I -/
def kc_128 : List (Nat × List pb_El) := [(0, kb_128_0), (17, kb_128_17), (22, kb_128_22)]
def kb_129_0 : List pb_El := [(.aload_n 0, 1, 0, 0), (.getfield 10, 3, 10, 0), (.iload_n 1, 1, 0, 0), (.invokevirtual 115, 3, 106, 2), (.astore 4, 2, 0, 0), (.aload 4, 2, 0, 0), (.ifnonnull 8, 3, 20, 0), (.bipush (-2), 2, 2, 1), (.goto 10, 3, 27, 0)]
def kb_129_20 : List pb_El := [(.aload 4, 2, 0, 0), (.iload_n 2, 1, 0, 0), (.iload_n 3, 1, 0, 0), (.invokevirtual 119, 3, 74, 3)]
def kb_129_27 : List pb_El := [(.ireturn, 1, 0, 0)]
/-- PointedBench.deed(III)I -/
def kc_129 : List (Nat × List pb_El) := [(0, kb_129_0), (20, kb_129_20), (27, kb_129_27)]
def kb_130_0 : List pb_El := [(.aload_n 0, 1, 0, 0), (.getfield 10, 3, 10, 0), (.iload_n 1, 1, 0, 0), (.invokevirtual 105, 3, 105, 2), (.astore_n 3, 1, 0, 0), (.aload_n 0, 1, 0, 0), (.getfield 10, 3, 10, 0), (.iload_n 2, 1, 0, 0), (.invokevirtual 115, 3, 106, 2), (.astore 4, 2, 0, 0), (.aload_n 3, 1, 0, 0), (.ifnull 8, 3, 28, 0), (.aload 4, 2, 0, 0), (.ifnonnull 5, 3, 30, 0)]
def kb_130_28 : List pb_El := [(.iconst (-1), 1, 1, 1), (.ireturn, 1, 0, 0)]
def kb_130_30 : List pb_El := [(.aload_n 0, 1, 0, 0), (.getfield 62, 3, 10, 8), (.aload_n 3, 1, 0, 0), (.invokevirtual 123, 3, 28, 2), (.aload_n 0, 1, 0, 0), (.getfield 62, 3, 10, 8), (.aload 4, 2, 0, 0), (.aload 4, 2, 0, 0), (.getfield 127, 3, 4, 0), (.invokevirtual 130, 3, 29, 3), (.ireturn, 1, 0, 0)]
/-- PointedBench.till(II)I -/
def kc_130 : List (Nat × List pb_El) := [(0, kb_130_0), (28, kb_130_28), (30, kb_130_30)]
def kb_131_0 : List pb_El := [(.aload_n 0, 1, 0, 0), (.getfield 10, 3, 10, 0), (.iload_n 1, 1, 0, 0), (.invokevirtual 105, 3, 105, 2), (.astore 5, 2, 0, 0), (.aload_n 0, 1, 0, 0), (.getfield 10, 3, 10, 0), (.iload_n 2, 1, 0, 0), (.invokevirtual 115, 3, 106, 2), (.astore 6, 2, 0, 0), (.aload 5, 2, 0, 0), (.ifnull 21, 3, 43, 0), (.aload 6, 2, 0, 0), (.ifnull 16, 3, 43, 0), (.iload_n 3, 1, 0, 0), (.ifCond .lt 12, 3, 43, 0), (.iload_n 3, 1, 0, 0), (.aload 6, 2, 0, 0), (.getfield 127, 3, 4, 0), (.if_icmp .le 5, 3, 45, 0)]
def kb_131_43 : List pb_El := [(.iconst (-1), 1, 1, 1), (.ireturn, 1, 0, 0)]
def kb_131_45 : List pb_El := [(.aload_n 0, 1, 0, 0), (.getfield 62, 3, 10, 8), (.aload 5, 2, 0, 0), (.invokevirtual 123, 3, 28, 2), (.aload_n 0, 1, 0, 0), (.getfield 62, 3, 10, 8), (.aload 6, 2, 0, 0), (.iload_n 3, 1, 0, 0), (.invokevirtual 130, 3, 29, 3), (.iload_n 3, 1, 0, 0), (.if_icmp .ge 7, 3, 72, 0), (.iconst (-1), 1, 1, 1), (.goto 12, 3, 81, 0)]
def kb_131_72 : List pb_El := [(.aload_n 0, 1, 0, 0), (.getfield 62, 3, 10, 8), (.iload 4, 2, 0, 0), (.invokevirtual 134, 3, 37, 2)]
def kb_131_81 : List pb_El := [(.ireturn, 1, 0, 0)]
/-- PointedBench.state(IIII)I -/
def kc_131 : List (Nat × List pb_El) := [(0, kb_131_0), (43, kb_131_43), (45, kb_131_45), (72, kb_131_72), (81, kb_131_81)]
def kb_132_0 : List pb_El := [(.aload_n 0, 1, 0, 0), (.getfield 10, 3, 10, 0), (.iload_n 1, 1, 0, 0), (.invokevirtual 105, 3, 105, 2), (.astore_n 3, 1, 0, 0), (.aload_n 3, 1, 0, 0), (.ifnull 13, 3, 23, 0), (.iload_n 2, 1, 0, 0), (.ifCond .lt 9, 3, 23, 0), (.iload_n 2, 1, 0, 0), (.bipush 63, 2, 63, 0), (.if_icmp .le 5, 3, 25, 0)]
def kb_132_23 : List pb_El := [(.iconst (-1), 1, 1, 1), (.ireturn, 1, 0, 0)]
def kb_132_25 : List pb_El := [(.aload_n 0, 1, 0, 0), (.getfield 34, 3, 10, 4), (.aload_n 3, 1, 0, 0), (.invokevirtual 135, 3, 76, 2), (.aload_n 0, 1, 0, 0), (.getfield 34, 3, 10, 4), (.iload_n 2, 1, 0, 0), (.invokevirtual 138, 3, 77, 2), (.ireturn, 1, 0, 0)]
/-- PointedBench.picked(II)I -/
def kc_132 : List (Nat × List pb_El) := [(0, kb_132_0), (23, kb_132_23), (25, kb_132_25)]
def kb_133_0 : List pb_El := [(.aload_n 0, 1, 0, 0), (.getfield 10, 3, 10, 0), (.iload_n 1, 1, 0, 0), (.invokevirtual 105, 3, 105, 2), (.astore 4, 2, 0, 0), (.aload 4, 2, 0, 0), (.ifnull 12, 3, 24, 0), (.aload 4, 2, 0, 0), (.iload_n 2, 1, 0, 0), (.invokevirtual 141, 3, 3, 2), (.ifCond .ne 5, 3, 26, 0)]
def kb_133_24 : List pb_El := [(.iconst (-1), 1, 1, 1), (.ireturn, 1, 0, 0)]
def kb_133_26 : List pb_El := [(.aload_n 0, 1, 0, 0), (.getfield 41, 3, 10, 5), (.aload 4, 2, 0, 0), (.iload_n 2, 1, 0, 0), (.invokevirtual 145, 3, 112, 3), (.iload_n 3, 1, 0, 0), (.invokestatic 149, 3, 164, 2), (.ireturn, 1, 0, 0)]
/-- PointedBench.show(IIZ)I -/
def kc_133 : List (Nat × List pb_El) := [(0, kb_133_0), (24, kb_133_24), (26, kb_133_26)]
def kb_134_0 : List pb_El := [(.aload_n 0, 1, 0, 0), (.getfield 10, 3, 10, 0), (.iload_n 1, 1, 0, 0), (.invokevirtual 105, 3, 105, 2), (.astore 4, 2, 0, 0), (.aload 4, 2, 0, 0), (.ifnull 12, 3, 24, 0), (.aload 4, 2, 0, 0), (.iload_n 2, 1, 0, 0), (.invokevirtual 141, 3, 3, 2), (.ifCond .ne 5, 3, 26, 0)]
def kb_134_24 : List pb_El := [(.iconst (-1), 1, 1, 1), (.ireturn, 1, 0, 0)]
def kb_134_26 : List pb_El := [(.aload_n 0, 1, 0, 0), (.getfield 34, 3, 10, 4), (.aload 4, 2, 0, 0), (.invokevirtual 135, 3, 76, 2), (.aload_n 0, 1, 0, 0), (.getfield 34, 3, 10, 4), (.iload_n 2, 1, 0, 0), (.invokevirtual 153, 3, 79, 2), (.iload_n 3, 1, 0, 0), (.invokestatic 149, 3, 164, 2), (.ireturn, 1, 0, 0)]
/-- PointedBench.bench(IIZ)I -/
def kc_134 : List (Nat × List pb_El) := [(0, kb_134_0), (24, kb_134_24), (26, kb_134_26)]
def kb_135_0 : List pb_El := [(.aload_n 0, 1, 0, 0), (.getfield 10, 3, 10, 0), (.iload_n 1, 1, 0, 0), (.invokevirtual 105, 3, 105, 2), (.astore 4, 2, 0, 0), (.aload 4, 2, 0, 0), (.ifnull 12, 3, 24, 0), (.aload 4, 2, 0, 0), (.iload_n 2, 1, 0, 0), (.invokevirtual 156, 3, 7, 2), (.ifCond .ne 7, 3, 28, 0)]
def kb_135_24 : List pb_El := [(.ldc2_w 159, 3, 0, 0), (.lreturn, 1, 0, 0)]
def kb_135_28 : List pb_El := [(.aload_n 0, 1, 0, 0), (.getfield 34, 3, 10, 4), (.aload 4, 2, 0, 0), (.invokevirtual 135, 3, 76, 2), (.aload_n 0, 1, 0, 0), (.getfield 34, 3, 10, 4), (.getfield 161, 3, 5, 0), (.iconst 1, 1, 1, 0), (.iload_n 2, 1, 0, 0), (.ishl, 1, 0, 0), (.iconst (-1), 1, 1, 1), (.ixor, 1, 0, 0), (.iand, 1, 0, 0), (.istore 5, 2, 0, 0), (.aload_n 0, 1, 0, 0), (.getfield 34, 3, 10, 4), (.iload_n 2, 1, 0, 0), (.invokevirtual 164, 3, 82, 2), (.i2l, 1, 0, 0), (.iconst 1, 1, 1, 0), (.iload 5, 2, 0, 0), (.invokestatic 167, 3, 305, 1), (.ishl, 1, 0, 0), (.i2l, 1, 0, 0), (.iload_n 3, 1, 0, 0), (.invokestatic 172, 3, 165, 3), (.lreturn, 1, 0, 0)]
/-- PointedBench.power(IIZ)J -/
def kc_135 : List (Nat × List pb_El) := [(0, kb_135_0), (24, kb_135_24), (28, kb_135_28)]
def kb_136_0 : List pb_El := [(.aload_n 0, 1, 0, 0), (.getfield 10, 3, 10, 0), (.iload_n 1, 1, 0, 0), (.invokevirtual 105, 3, 105, 2), (.astore_n 3, 1, 0, 0), (.aload_n 3, 1, 0, 0), (.ifnonnull 7, 3, 17, 0), (.iconst (-1), 1, 1, 1), (.goto 12, 3, 26, 0)]
def kb_136_17 : List pb_El := [(.aload_n 0, 1, 0, 0), (.getfield 41, 3, 10, 5), (.aload_n 3, 1, 0, 0), (.iload_n 2, 1, 0, 0), (.invokevirtual 176, 3, 113, 3)]
def kb_136_26 : List pb_El := [(.ireturn, 1, 0, 0)]
/-- PointedBench.ban(IZ)I -/
def kc_136 : List (Nat × List pb_El) := [(0, kb_136_0), (17, kb_136_17), (26, kb_136_26)]
def kb_137_0 : List pb_El := [(.aload_n 0, 1, 0, 0), (.getfield 10, 3, 10, 0), (.iload_n 1, 1, 0, 0), (.invokevirtual 105, 3, 105, 2), (.astore 6, 2, 0, 0), (.aload 6, 2, 0, 0), (.ifnull 37, 3, 49, 0), (.aload 6, 2, 0, 0), (.iload_n 2, 1, 0, 0), (.invokevirtual 141, 3, 3, 2), (.ifCond .eq 28, 3, 49, 0), (.aload 6, 2, 0, 0), (.iload_n 3, 1, 0, 0), (.invokevirtual 141, 3, 3, 2), (.ifCond .eq 19, 3, 49, 0), (.iload_n 2, 1, 0, 0), (.iload_n 3, 1, 0, 0), (.if_icmp .eq 14, 3, 49, 0), (.iload 4, 2, 0, 0), (.ifCond .lt 9, 3, 49, 0), (.iload 4, 2, 0, 0), (.iconst 4, 1, 4, 0), (.if_icmp .le 6, 3, 52, 0)]
def kb_137_49 : List pb_El := [(.bipush (-9), 2, 9, 1), (.ireturn, 1, 0, 0)]
def kb_137_52 : List pb_El := [(.aload_n 0, 1, 0, 0), (.getfield 41, 3, 10, 5), (.aload 6, 2, 0, 0), (.iload_n 2, 1, 0, 0), (.iload_n 3, 1, 0, 0), (.iload 4, 2, 0, 0), (.iload 5, 2, 0, 0), (.invokevirtual 180, 3, 115, 6), (.ireturn, 1, 0, 0)]
/-- PointedBench.rivals(IIIIZ)I -/
def kc_137 : List (Nat × List pb_El) := [(0, kb_137_0), (49, kb_137_49), (52, kb_137_52)]
def kb_138_0 : List pb_El := [(.aload_n 0, 1, 0, 0), (.getfield 10, 3, 10, 0), (.iload_n 1, 1, 0, 0), (.invokevirtual 105, 3, 105, 2), (.astore 6, 2, 0, 0), (.aload 6, 2, 0, 0), (.ifnull 22, 3, 34, 0), (.aload 6, 2, 0, 0), (.iload_n 2, 1, 0, 0), (.invokevirtual 141, 3, 3, 2), (.ifCond .eq 13, 3, 34, 0), (.iload_n 3, 1, 0, 0), (.iconst 1, 1, 1, 0), (.if_icmp .lt 8, 3, 34, 0), (.iload_n 3, 1, 0, 0), (.iconst 3, 1, 3, 0), (.if_icmp .le 7, 3, 38, 0)]
def kb_138_34 : List pb_El := [(.ldc2_w 159, 3, 0, 0), (.lreturn, 1, 0, 0)]
def kb_138_38 : List pb_El := [(.bipush 10, 2, 10, 0), (.aload 6, 2, 0, 0), (.getfield 184, 3, 0, 2), (.iload_n 2, 1, 0, 0), (.iaload, 1, 0, 0), (.isub, 1, 0, 0), (.istore 7, 2, 0, 0), (.iload 4, 2, 0, 0), (.ifCond .eq 13, 3, 65, 0), (.ldc2_w 188, 3, 1, 0), (.iload_n 3, 1, 0, 0), (.invokestatic 190, 3, 166, 2), (.goto 6, 3, 68, 0)]
def kb_138_65 : List pb_El := [(.ldc2_w 188, 3, 1, 0)]
def kb_138_68 : List pb_El := [(.lstore 8, 2, 0, 0), (.iload 4, 2, 0, 0), (.ifCond .eq 16, 3, 88, 0), (.lload 8, 2, 0, 0), (.iload 7, 2, 0, 0), (.i2l, 1, 0, 0), (.iload_n 3, 1, 0, 0), (.invokestatic 190, 3, 166, 2), (.lsub, 1, 0, 0), (.goto 6, 3, 91, 0)]
def kb_138_88 : List pb_El := [(.iload 7, 2, 0, 0), (.i2l, 1, 0, 0)]
def kb_138_91 : List pb_El := [(.lstore 10, 2, 0, 0), (.aload 6, 2, 0, 0), (.invokevirtual 194, 3, 8, 1), (.istore 12, 2, 0, 0), (.lload 10, 2, 0, 0), (.iload 12, 2, 0, 0), (.invokestatic 190, 3, 166, 2), (.lload 8, 2, 0, 0), (.iload 12, 2, 0, 0), (.invokestatic 190, 3, 166, 2), (.iload 5, 2, 0, 0), (.invokestatic 172, 3, 165, 3), (.lreturn, 1, 0, 0)]
/-- PointedBench.quiet(IIIZZ)J -/
def kc_138 : List (Nat × List pb_El) := [(0, kb_138_0), (34, kb_138_34), (38, kb_138_38), (65, kb_138_65), (68, kb_138_68), (88, kb_138_88), (91, kb_138_91)]
def kb_139_0 : List pb_El := [(.aload_n 0, 1, 0, 0), (.getfield 10, 3, 10, 0), (.iload_n 1, 1, 0, 0), (.invokevirtual 198, 3, 107, 2), (.astore 4, 2, 0, 0), (.aload 4, 2, 0, 0), (.ifnonnull 8, 3, 20, 0), (.bipush (-2), 2, 2, 1), (.goto 10, 3, 27, 0)]
def kb_139_20 : List pb_El := [(.aload 4, 2, 0, 0), (.iload_n 2, 1, 0, 0), (.iload_n 3, 1, 0, 0), (.invokevirtual 119, 3, 74, 3)]
def kb_139_27 : List pb_El := [(.ireturn, 1, 0, 0)]
/-- PointedBench.fact(III)I -/
def kc_139 : List (Nat × List pb_El) := [(0, kb_139_0), (20, kb_139_20), (27, kb_139_27)]
def kb_140_0 : List pb_El := [(.aload_n 0, 1, 0, 0), (.getfield 10, 3, 10, 0), (.iload_n 1, 1, 0, 0), (.invokevirtual 198, 3, 107, 2), (.astore_n 3, 1, 0, 0), (.aload_n 3, 1, 0, 0), (.ifnonnull 6, 3, 16, 0), (.bipush (-2), 2, 2, 1), (.ireturn, 1, 0, 0)]
def kb_140_16 : List pb_El := [(.aload_n 0, 1, 0, 0), (.getfield 69, 3, 10, 9), (.aload_n 3, 1, 0, 0), (.invokevirtual 201, 3, 60, 2), (.aload_n 0, 1, 0, 0), (.getfield 69, 3, 10, 9), (.iload_n 2, 1, 0, 0), (.invokevirtual 205, 3, 63, 2), (.ireturn, 1, 0, 0)]
/-- PointedBench.fits(II)I -/
def kc_140 : List (Nat × List pb_El) := [(0, kb_140_0), (16, kb_140_16)]
def kb_141_0 : List pb_El := [(.aload_n 0, 1, 0, 0), (.getfield 10, 3, 10, 0), (.iload_n 1, 1, 0, 0), (.invokevirtual 105, 3, 105, 2), (.astore 5, 2, 0, 0), (.aload 5, 2, 0, 0), (.ifnull 13, 3, 25, 0), (.iload_n 3, 1, 0, 0), (.ifCond .lt 9, 3, 25, 0), (.iload_n 3, 1, 0, 0), (.bipush 60, 2, 60, 0), (.if_icmp .le 5, 3, 27, 0)]
def kb_141_25 : List pb_El := [(.iconst (-1), 1, 1, 1), (.ireturn, 1, 0, 0)]
def kb_141_27 : List pb_El := [(.aload_n 0, 1, 0, 0), (.getfield 62, 3, 10, 8), (.aload 5, 2, 0, 0), (.invokevirtual 123, 3, 28, 2), (.aload_n 0, 1, 0, 0), (.getfield 62, 3, 10, 8), (.iload_n 2, 1, 0, 0), (.iload_n 3, 1, 0, 0), (.invokevirtual 206, 3, 39, 3), (.aload_n 0, 1, 0, 0), (.getfield 62, 3, 10, 8), (.iload 4, 2, 0, 0), (.invokevirtual 134, 3, 37, 2), (.ireturn, 1, 0, 0)]
/-- PointedBench.drawn(IIII)I -/
def kc_141 : List (Nat × List pb_El) := [(0, kb_141_0), (25, kb_141_25), (27, kb_141_27)]
def kb_142_0 : List pb_El := [(.aload_n 0, 1, 0, 0), (.getfield 10, 3, 10, 0), (.iload_n 1, 1, 0, 0), (.invokevirtual 105, 3, 105, 2), (.astore 4, 2, 0, 0), (.aload 4, 2, 0, 0), (.ifnull 26, 3, 38, 0), (.aload 4, 2, 0, 0), (.iload_n 2, 1, 0, 0), (.invokevirtual 141, 3, 3, 2), (.ifCond .eq 17, 3, 38, 0), (.aload 4, 2, 0, 0), (.iload_n 3, 1, 0, 0), (.invokevirtual 141, 3, 3, 2), (.ifCond .eq 8, 3, 38, 0), (.iload_n 2, 1, 0, 0), (.iload_n 3, 1, 0, 0), (.if_icmp .ne 5, 3, 40, 0)]
def kb_142_38 : List pb_El := [(.iconst (-1), 1, 1, 1), (.ireturn, 1, 0, 0)]
def kb_142_40 : List pb_El := [(.aload_n 0, 1, 0, 0), (.getfield 48, 3, 10, 6), (.aload 4, 2, 0, 0), (.invokevirtual 210, 3, 50, 2), (.aload_n 0, 1, 0, 0), (.getfield 48, 3, 10, 6), (.iload_n 2, 1, 0, 0), (.iload_n 3, 1, 0, 0), (.invokevirtual 213, 3, 52, 3), (.ireturn, 1, 0, 0)]
/-- PointedBench.duel(III)I -/
def kc_142 : List (Nat × List pb_El) := [(0, kb_142_0), (38, kb_142_38), (40, kb_142_40)]
def kb_143_0 : List pb_El := [(.aload_n 0, 1, 0, 0), (.getfield 10, 3, 10, 0), (.iload_n 1, 1, 0, 0), (.invokevirtual 105, 3, 105, 2), (.astore_n 3, 1, 0, 0), (.aload_n 3, 1, 0, 0), (.ifnonnull 6, 3, 16, 0), (.bipush (-2), 2, 2, 1), (.ireturn, 1, 0, 0)]
def kb_143_16 : List pb_El := [(.iload_n 2, 1, 0, 0), (.ifCond .eq 9, 3, 26, 0), (.iload_n 2, 1, 0, 0), (.bipush 10, 2, 10, 0), (.if_icmp .lt 37, 3, 60, 0)]
def kb_143_26 : List pb_El := [(.aload_n 0, 1, 0, 0), (.getfield 48, 3, 10, 6), (.aload_n 3, 1, 0, 0), (.invokevirtual 210, 3, 50, 2), (.iload_n 2, 1, 0, 0), (.ifCond .ne 13, 3, 48, 0), (.aload_n 0, 1, 0, 0), (.getfield 48, 3, 10, 6), (.invokevirtual 216, 3, 53, 1), (.goto 14, 3, 59, 0)]
def kb_143_48 : List pb_El := [(.aload_n 0, 1, 0, 0), (.getfield 48, 3, 10, 6), (.iload_n 2, 1, 0, 0), (.bipush 10, 2, 10, 0), (.isub, 1, 0, 0), (.invokevirtual 219, 3, 54, 2)]
def kb_143_59 : List pb_El := [(.ireturn, 1, 0, 0)]
def kb_143_60 : List pb_El := [(.aload_n 3, 1, 0, 0), (.iload_n 2, 1, 0, 0), (.invokevirtual 222, 3, 13, 2), (.ireturn, 1, 0, 0)]
/-- PointedBench.best(II)I -/
def kc_143 : List (Nat × List pb_El) := [(0, kb_143_0), (16, kb_143_16), (26, kb_143_26), (48, kb_143_48), (59, kb_143_59), (60, kb_143_60)]
def kb_144_0 : List pb_El := [(.aload_n 0, 1, 0, 0), (.getfield 10, 3, 10, 0), (.iload_n 1, 1, 0, 0), (.invokevirtual 105, 3, 105, 2), (.astore_n 3, 1, 0, 0), (.aload_n 3, 1, 0, 0), (.ifnull 11, 3, 21, 0), (.aload_n 3, 1, 0, 0), (.iload_n 2, 1, 0, 0), (.invokevirtual 141, 3, 3, 2), (.ifCond .ne 5, 3, 23, 0)]
def kb_144_21 : List pb_El := [(.iconst (-1), 1, 1, 1), (.ireturn, 1, 0, 0)]
def kb_144_23 : List pb_El := [(.aload_n 0, 1, 0, 0), (.getfield 34, 3, 10, 4), (.aload_n 3, 1, 0, 0), (.invokevirtual 135, 3, 76, 2), (.aload_n 0, 1, 0, 0), (.getfield 34, 3, 10, 4), (.iload_n 2, 1, 0, 0), (.invokevirtual 225, 3, 81, 2), (.ireturn, 1, 0, 0)]
/-- PointedBench.benches(II)I -/
def kc_144 : List (Nat × List pb_El) := [(0, kb_144_0), (21, kb_144_21), (23, kb_144_23)]
def kb_145_0 : List pb_El := [(.aload_n 0, 1, 0, 0), (.getfield 10, 3, 10, 0), (.iload_n 1, 1, 0, 0), (.invokevirtual 105, 3, 105, 2), (.astore 4, 2, 0, 0), (.aload 4, 2, 0, 0), (.ifnull 26, 3, 38, 0), (.aload 4, 2, 0, 0), (.iload_n 2, 1, 0, 0), (.invokevirtual 141, 3, 3, 2), (.ifCond .eq 17, 3, 38, 0), (.aload 4, 2, 0, 0), (.iload_n 3, 1, 0, 0), (.invokevirtual 141, 3, 3, 2), (.ifCond .eq 8, 3, 38, 0), (.iload_n 2, 1, 0, 0), (.iload_n 3, 1, 0, 0), (.if_icmp .ne 5, 3, 40, 0)]
def kb_145_38 : List pb_El := [(.iconst (-1), 1, 1, 1), (.ireturn, 1, 0, 0)]
def kb_145_40 : List pb_El := [(.aload_n 0, 1, 0, 0), (.getfield 41, 3, 10, 5), (.aload 4, 2, 0, 0), (.iload_n 2, 1, 0, 0), (.iload_n 3, 1, 0, 0), (.invokevirtual 228, 3, 114, 4), (.ireturn, 1, 0, 0)]
/-- PointedBench.trade(III)I -/
def kc_145 : List (Nat × List pb_El) := [(0, kb_145_0), (38, kb_145_38), (40, kb_145_40)]
def kb_146_0 : List pb_El := [(.aload_n 0, 1, 0, 0), (.getfield 10, 3, 10, 0), (.iload_n 1, 1, 0, 0), (.invokevirtual 105, 3, 105, 2), (.astore_n 3, 1, 0, 0), (.aload_n 3, 1, 0, 0), (.ifnonnull 5, 3, 15, 0), (.iconst (-1), 1, 1, 1), (.ireturn, 1, 0, 0)]
def kb_146_15 : List pb_El := [(.aload_n 3, 1, 0, 0), (.invokevirtual 232, 3, 20, 1), (.iload_n 2, 1, 0, 0), (.invokestatic 149, 3, 164, 2), (.ireturn, 1, 0, 0)]
/-- PointedBench.gang(IZ)I -/
def kc_146 : List (Nat × List pb_El) := [(0, kb_146_0), (15, kb_146_15)]
def kb_147_0 : List pb_El := [(.aload_n 0, 1, 0, 0), (.getfield 10, 3, 10, 0), (.iload_n 1, 1, 0, 0), (.invokevirtual 105, 3, 105, 2), (.astore_n 3, 1, 0, 0), (.aload_n 3, 1, 0, 0), (.ifnonnull 7, 3, 17, 0), (.iconst (-1), 1, 1, 1), (.goto 8, 3, 22, 0)]
def kb_147_17 : List pb_El := [(.aload_n 3, 1, 0, 0), (.iload_n 2, 1, 0, 0), (.invokevirtual 235, 3, 21, 2)]
def kb_147_22 : List pb_El := [(.ireturn, 1, 0, 0)]
/-- PointedBench.kindest(II)I -/
def kc_147 : List (Nat × List pb_El) := [(0, kb_147_0), (17, kb_147_17), (22, kb_147_22)]
def kb_148_0 : List pb_El := [(.aload_n 0, 1, 0, 0), (.getfield 10, 3, 10, 0), (.iload_n 1, 1, 0, 0), (.invokevirtual 105, 3, 105, 2), (.astore_n 3, 1, 0, 0), (.aload_n 3, 1, 0, 0), (.ifnull 11, 3, 21, 0), (.aload_n 3, 1, 0, 0), (.iload_n 2, 1, 0, 0), (.invokevirtual 141, 3, 3, 2), (.ifCond .ne 5, 3, 23, 0)]
def kb_148_21 : List pb_El := [(.iconst (-1), 1, 1, 1), (.ireturn, 1, 0, 0)]
def kb_148_23 : List pb_El := [(.iconst 0, 1, 0, 0), (.istore 4, 2, 0, 0), (.iconst 0, 1, 0, 0), (.istore 5, 2, 0, 0)]
def kb_148_29 : List pb_El := [(.iload 5, 2, 0, 0), (.aload_n 3, 1, 0, 0), (.getfield 238, 3, 0, 1), (.if_icmp .ge 28, 3, 63, 0), (.aload_n 3, 1, 0, 0), (.iload_n 2, 1, 0, 0), (.iload 5, 2, 0, 0), (.invokevirtual 241, 3, 12, 3), (.ifCond .eq 12, 3, 57, 0), (.iload 4, 2, 0, 0), (.iconst 1, 1, 1, 0), (.iload 5, 2, 0, 0), (.ishl, 1, 0, 0), (.ior, 1, 0, 0), (.istore 4, 2, 0, 0)]
def kb_148_57 : List pb_El := [(.iinc 5 1, 3, 1, 0), (.goto (-31), 3, 29, 0)]
def kb_148_63 : List pb_El := [(.iload 4, 2, 0, 0), (.ireturn, 1, 0, 0)]
/-- PointedBench.freed(II)I -/
def kc_148 : List (Nat × List pb_El) := [(0, kb_148_0), (21, kb_148_21), (23, kb_148_23), (29, kb_148_29), (57, kb_148_57), (63, kb_148_63)]
def kb_149_0 : List pb_El := [(.aload_n 0, 1, 0, 0), (.getfield 10, 3, 10, 0), (.iload_n 1, 1, 0, 0), (.invokevirtual 105, 3, 105, 2), (.astore 4, 2, 0, 0), (.aload 4, 2, 0, 0), (.ifnull 12, 3, 24, 0), (.aload 4, 2, 0, 0), (.iload_n 2, 1, 0, 0), (.invokevirtual 141, 3, 3, 2), (.ifCond .ne 7, 3, 28, 0)]
def kb_149_24 : List pb_El := [(.ldc2_w 159, 3, 0, 0), (.lreturn, 1, 0, 0)]
def kb_149_28 : List pb_El := [(.iconst 0, 1, 0, 0), (.istore 5, 2, 0, 0), (.iconst 0, 1, 0, 0), (.istore 6, 2, 0, 0)]
def kb_149_34 : List pb_El := [(.iload 6, 2, 0, 0), (.bipush 6, 2, 6, 0), (.if_icmp .ge 36, 3, 74, 0), (.aload 4, 2, 0, 0), (.getfield 245, 3, 0, 3), (.iload_n 2, 1, 0, 0), (.iaload, 1, 0, 0), (.iload 6, 2, 0, 0), (.ishr, 1, 0, 0), (.iconst 1, 1, 1, 0), (.iand, 1, 0, 0), (.ifCond .eq 15, 3, 68, 0), (.iload 5, 2, 0, 0), (.aload 4, 2, 0, 0), (.iload 6, 2, 0, 0), (.invokevirtual 248, 3, 10, 2), (.iadd, 1, 0, 0), (.istore 5, 2, 0, 0)]
def kb_149_68 : List pb_El := [(.iinc 6 1, 3, 1, 0), (.goto (-37), 3, 34, 0)]
def kb_149_74 : List pb_El := [(.iload 5, 2, 0, 0), (.i2l, 1, 0, 0), (.aload 4, 2, 0, 0), (.getfield 238, 3, 0, 1), (.i2l, 1, 0, 0), (.iload_n 3, 1, 0, 0), (.invokestatic 172, 3, 165, 3), (.lreturn, 1, 0, 0)]
/-- PointedBench.liked(IIZ)J -/
def kc_149 : List (Nat × List pb_El) := [(0, kb_149_0), (24, kb_149_24), (28, kb_149_28), (34, kb_149_34), (68, kb_149_68), (74, kb_149_74)]
def kb_150_0 : List pb_El := [(.aload_n 0, 1, 0, 0), (.getfield 10, 3, 10, 0), (.iload_n 1, 1, 0, 0), (.invokevirtual 105, 3, 105, 2), (.astore 4, 2, 0, 0), (.aload 4, 2, 0, 0), (.ifnull 21, 3, 33, 0), (.aload 4, 2, 0, 0), (.iload_n 2, 1, 0, 0), (.invokevirtual 251, 3, 4, 2), (.ifCond .eq 12, 3, 33, 0), (.aload 4, 2, 0, 0), (.iload_n 3, 1, 0, 0), (.invokevirtual 251, 3, 4, 2), (.ifCond .ne 7, 3, 37, 0)]
def kb_150_33 : List pb_El := [(.iconst (-1), 1, 1, 1), (.goto 10, 3, 44, 0)]
def kb_150_37 : List pb_El := [(.aload 4, 2, 0, 0), (.iload_n 2, 1, 0, 0), (.iload_n 3, 1, 0, 0), (.invokevirtual 254, 3, 22, 3)]
def kb_150_44 : List pb_El := [(.ireturn, 1, 0, 0)]
/-- PointedBench.unlike(III)I -/
def kc_150 : List (Nat × List pb_El) := [(0, kb_150_0), (33, kb_150_33), (37, kb_150_37), (44, kb_150_44)]
def kb_151_0 : List pb_El := [(.aload_n 0, 1, 0, 0), (.getfield 10, 3, 10, 0), (.iload_n 1, 1, 0, 0), (.invokevirtual 105, 3, 105, 2), (.astore_n 3, 1, 0, 0), (.aload_n 3, 1, 0, 0), (.ifnonnull 7, 3, 17, 0), (.iconst (-1), 1, 1, 1), (.goto 8, 3, 22, 0)]
def kb_151_17 : List pb_El := [(.aload_n 3, 1, 0, 0), (.iload_n 2, 1, 0, 0), (.invokevirtual 257, 3, 23, 2)]
def kb_151_22 : List pb_El := [(.ireturn, 1, 0, 0)]
/-- PointedBench.runoff(II)I -/
def kc_151 : List (Nat × List pb_El) := [(0, kb_151_0), (17, kb_151_17), (22, kb_151_22)]
def kb_152_0 : List pb_El := [(.aload_n 0, 1, 0, 0), (.getfield 10, 3, 10, 0), (.iload_n 1, 1, 0, 0), (.invokevirtual 105, 3, 105, 2), (.astore 4, 2, 0, 0), (.aload 4, 2, 0, 0), (.ifnull 21, 3, 33, 0), (.aload 4, 2, 0, 0), (.iload_n 2, 1, 0, 0), (.invokevirtual 141, 3, 3, 2), (.ifCond .eq 12, 3, 33, 0), (.aload 4, 2, 0, 0), (.iload_n 3, 1, 0, 0), (.invokevirtual 141, 3, 3, 2), (.ifCond .ne 5, 3, 35, 0)]
def kb_152_33 : List pb_El := [(.iconst (-1), 1, 1, 1), (.ireturn, 1, 0, 0)]
def kb_152_35 : List pb_El := [(.aload_n 0, 1, 0, 0), (.getfield 48, 3, 10, 6), (.aload 4, 2, 0, 0), (.invokevirtual 210, 3, 50, 2), (.aload_n 0, 1, 0, 0), (.getfield 48, 3, 10, 6), (.iload_n 2, 1, 0, 0), (.invokevirtual 260, 3, 55, 2), (.ifCond .eq 15, 3, 67, 0), (.aload_n 0, 1, 0, 0), (.getfield 48, 3, 10, 6), (.getfield 263, 3, 2, 0), (.iload_n 3, 1, 0, 0), (.iaload, 1, 0, 0), (.goto 4, 3, 68, 0)]
def kb_152_67 : List pb_El := [(.iconst (-1), 1, 1, 1)]
def kb_152_68 : List pb_El := [(.ireturn, 1, 0, 0)]
/-- PointedBench.agenda(III)I -/
def kc_152 : List (Nat × List pb_El) := [(0, kb_152_0), (33, kb_152_33), (35, kb_152_35), (67, kb_152_67), (68, kb_152_68)]
def kb_153_0 : List pb_El := [(.aload_n 0, 1, 0, 0), (.getfield 10, 3, 10, 0), (.iload_n 1, 1, 0, 0), (.invokevirtual 105, 3, 105, 2), (.astore_n 3, 1, 0, 0), (.aload_n 3, 1, 0, 0), (.ifnull 11, 3, 21, 0), (.aload_n 3, 1, 0, 0), (.iload_n 2, 1, 0, 0), (.invokevirtual 156, 3, 7, 2), (.ifCond .ne 5, 3, 23, 0)]
def kb_153_21 : List pb_El := [(.iconst (-1), 1, 1, 1), (.ireturn, 1, 0, 0)]
def kb_153_23 : List pb_El := [(.aload_n 0, 1, 0, 0), (.getfield 34, 3, 10, 4), (.aload_n 3, 1, 0, 0), (.invokevirtual 135, 3, 76, 2), (.aload_n 0, 1, 0, 0), (.getfield 34, 3, 10, 4), (.aload_n 3, 1, 0, 0), (.iload_n 2, 1, 0, 0), (.invokevirtual 266, 3, 83, 3), (.ireturn, 1, 0, 0)]
/-- PointedBench.lies(II)I -/
def kc_153 : List (Nat × List pb_El) := [(0, kb_153_0), (21, kb_153_21), (23, kb_153_23)]
def kb_154_0 : List pb_El := [(.aload_n 0, 1, 0, 0), (.getfield 10, 3, 10, 0), (.iload_n 1, 1, 0, 0), (.invokevirtual 105, 3, 105, 2), (.astore 5, 2, 0, 0), (.aload 5, 2, 0, 0), (.ifnull 21, 3, 33, 0), (.aload 5, 2, 0, 0), (.iload_n 2, 1, 0, 0), (.invokevirtual 251, 3, 4, 2), (.ifCond .eq 12, 3, 33, 0), (.aload 5, 2, 0, 0), (.iload_n 3, 1, 0, 0), (.invokevirtual 141, 3, 3, 2), (.ifCond .ne 5, 3, 35, 0)]
def kb_154_33 : List pb_El := [(.iconst (-1), 1, 1, 1), (.ireturn, 1, 0, 0)]
def kb_154_35 : List pb_El := [(.aload 5, 2, 0, 0), (.iload_n 2, 1, 0, 0), (.iload_n 3, 1, 0, 0), (.iload 4, 2, 0, 0), (.invokevirtual 269, 3, 25, 4), (.ireturn, 1, 0, 0)]
/-- PointedBench.bun(IIIZ)I -/
def kc_154 : List (Nat × List pb_El) := [(0, kb_154_0), (33, kb_154_33), (35, kb_154_35)]
def kb_155_0 : List pb_El := [(.aload_n 0, 1, 0, 0), (.getfield 10, 3, 10, 0), (.iload_n 1, 1, 0, 0), (.invokevirtual 105, 3, 105, 2), (.astore_n 3, 1, 0, 0), (.aload_n 3, 1, 0, 0), (.ifnull 16, 3, 26, 0), (.iload_n 2, 1, 0, 0), (.iconst (-1), 1, 1, 1), (.if_icmp .eq 13, 3, 28, 0), (.aload_n 3, 1, 0, 0), (.iload_n 2, 1, 0, 0), (.invokevirtual 251, 3, 4, 2), (.ifCond .ne 5, 3, 28, 0)]
def kb_155_26 : List pb_El := [(.iconst (-1), 1, 1, 1), (.ireturn, 1, 0, 0)]
def kb_155_28 : List pb_El := [(.aload_n 0, 1, 0, 0), (.getfield 55, 3, 10, 7), (.aload_n 3, 1, 0, 0), (.invokevirtual 273, 3, 120, 2), (.istore 4, 2, 0, 0), (.iload_n 2, 1, 0, 0), (.iconst (-1), 1, 1, 1), (.if_icmp .ne 8, 3, 48, 0), (.iload 4, 2, 0, 0), (.goto 12, 3, 57, 0)]
def kb_155_48 : List pb_El := [(.aload_n 0, 1, 0, 0), (.getfield 55, 3, 10, 7), (.getfield 277, 3, 9, 0), (.iload_n 2, 1, 0, 0), (.iaload, 1, 0, 0)]
def kb_155_57 : List pb_El := [(.ireturn, 1, 0, 0)]
/-- PointedBench.wings(II)I -/
def kc_155 : List (Nat × List pb_El) := [(0, kb_155_0), (26, kb_155_26), (28, kb_155_28), (48, kb_155_48), (57, kb_155_57)]
def kb_156_0 : List pb_El := [(.aload_n 0, 1, 0, 0), (.getfield 10, 3, 10, 0), (.iload_n 1, 1, 0, 0), (.invokevirtual 105, 3, 105, 2), (.astore 4, 2, 0, 0), (.aload 4, 2, 0, 0), (.ifnull 13, 3, 25, 0), (.iload_n 2, 1, 0, 0), (.ifCond .lt 9, 3, 25, 0), (.iload_n 2, 1, 0, 0), (.bipush 30, 2, 30, 0), (.if_icmp .le 5, 3, 27, 0)]
def kb_156_25 : List pb_El := [(.iconst (-1), 1, 1, 1), (.ireturn, 1, 0, 0)]
def kb_156_27 : List pb_El := [(.aload_n 0, 1, 0, 0), (.getfield 41, 3, 10, 5), (.aload 4, 2, 0, 0), (.iload_n 2, 1, 0, 0), (.invokevirtual 280, 3, 111, 3), (.iload_n 3, 1, 0, 0), (.ifCond .eq 13, 3, 51, 0), (.aload_n 0, 1, 0, 0), (.getfield 41, 3, 10, 5), (.invokevirtual 284, 3, 109, 1), (.goto 10, 3, 58, 0)]
def kb_156_51 : List pb_El := [(.aload_n 0, 1, 0, 0), (.getfield 41, 3, 10, 5), (.invokevirtual 287, 3, 110, 1)]
def kb_156_58 : List pb_El := [(.ireturn, 1, 0, 0)]
/-- PointedBench.later(IIZ)I -/
def kc_156 : List (Nat × List pb_El) := [(0, kb_156_0), (25, kb_156_25), (27, kb_156_27), (51, kb_156_51), (58, kb_156_58)]
def kb_157_0 : List pb_El := [(.aload_n 0, 1, 0, 0), (.getfield 10, 3, 10, 0), (.iload_n 1, 1, 0, 0), (.invokevirtual 105, 3, 105, 2), (.astore 4, 2, 0, 0), (.aload 4, 2, 0, 0), (.ifnull 12, 3, 24, 0), (.aload 4, 2, 0, 0), (.iload_n 2, 1, 0, 0), (.invokevirtual 141, 3, 3, 2), (.ifCond .ne 5, 3, 26, 0)]
def kb_157_24 : List pb_El := [(.iconst (-1), 1, 1, 1), (.ireturn, 1, 0, 0)]
def kb_157_26 : List pb_El := [(.aload_n 0, 1, 0, 0), (.getfield 34, 3, 10, 4), (.aload 4, 2, 0, 0), (.invokevirtual 135, 3, 76, 2), (.aload_n 0, 1, 0, 0), (.getfield 34, 3, 10, 4), (.iload_n 2, 1, 0, 0), (.invokevirtual 289, 3, 80, 2), (.iload_n 3, 1, 0, 0), (.invokestatic 149, 3, 164, 2), (.ireturn, 1, 0, 0)]
/-- PointedBench.fewest(IIZ)I -/
def kc_157 : List (Nat × List pb_El) := [(0, kb_157_0), (24, kb_157_24), (26, kb_157_26)]
def kb_158_0 : List pb_El := [(.aload_n 0, 1, 0, 0), (.getfield 10, 3, 10, 0), (.iload_n 1, 1, 0, 0), (.invokevirtual 105, 3, 105, 2), (.astore 4, 2, 0, 0), (.aload_n 0, 1, 0, 0), (.getfield 10, 3, 10, 0), (.iload_n 2, 1, 0, 0), (.invokevirtual 115, 3, 106, 2), (.astore 5, 2, 0, 0), (.aload 4, 2, 0, 0), (.ifnull 8, 3, 30, 0), (.aload 5, 2, 0, 0), (.ifnonnull 6, 3, 33, 0)]
def kb_158_30 : List pb_El := [(.bipush (-2), 2, 2, 1), (.ireturn, 1, 0, 0)]
def kb_158_33 : List pb_El := [(.aload_n 0, 1, 0, 0), (.getfield 62, 3, 10, 8), (.aload 4, 2, 0, 0), (.invokevirtual 123, 3, 28, 2), (.iload_n 3, 1, 0, 0), (.tableswitch 99 0 5 #[37, 47, 57, 67, 77, 88], 37, 0, 0)]
def kb_158_80 : List pb_El := [(.aload_n 0, 1, 0, 0), (.getfield 62, 3, 10, 8), (.aload 5, 2, 0, 0), (.invokevirtual 292, 3, 42, 2), (.ireturn, 1, 0, 0)]
def kb_158_90 : List pb_El := [(.aload_n 0, 1, 0, 0), (.getfield 62, 3, 10, 8), (.aload 5, 2, 0, 0), (.invokevirtual 296, 3, 43, 2), (.ireturn, 1, 0, 0)]
def kb_158_100 : List pb_El := [(.aload_n 0, 1, 0, 0), (.getfield 62, 3, 10, 8), (.aload 5, 2, 0, 0), (.invokevirtual 299, 3, 44, 2), (.ireturn, 1, 0, 0)]
def kb_158_110 : List pb_El := [(.aload_n 0, 1, 0, 0), (.getfield 62, 3, 10, 8), (.aload 5, 2, 0, 0), (.invokevirtual 302, 3, 45, 2), (.ireturn, 1, 0, 0)]
def kb_158_120 : List pb_El := [(.aload_n 0, 1, 0, 0), (.getfield 62, 3, 10, 8), (.aload 5, 2, 0, 0), (.iconst 0, 1, 0, 0), (.invokevirtual 305, 3, 47, 3), (.ireturn, 1, 0, 0)]
def kb_158_131 : List pb_El := [(.aload_n 0, 1, 0, 0), (.getfield 62, 3, 10, 8), (.aload 5, 2, 0, 0), (.iconst 2, 1, 2, 0), (.invokevirtual 305, 3, 47, 3), (.ireturn, 1, 0, 0)]
def kb_158_142 : List pb_El := [(.bipush (-2), 2, 2, 1), (.ireturn, 1, 0, 0)]
/-- PointedBench.after(III)I -/
def kc_158 : List (Nat × List pb_El) := [(0, kb_158_0), (30, kb_158_30), (33, kb_158_33), (80, kb_158_80), (90, kb_158_90), (100, kb_158_100), (110, kb_158_110), (120, kb_158_120), (131, kb_158_131), (142, kb_158_142)]
def kb_159_0 : List pb_El := [(.aload_n 0, 1, 0, 0), (.getfield 10, 3, 10, 0), (.iload_n 1, 1, 0, 0), (.invokevirtual 198, 3, 107, 2), (.astore 5, 2, 0, 0), (.aload 5, 2, 0, 0), (.ifnull 23, 3, 35, 0), (.iload_n 2, 1, 0, 0), (.ifCond .lt 19, 3, 35, 0), (.iload_n 2, 1, 0, 0), (.bipush 63, 2, 63, 0), (.if_icmp .gt 13, 3, 35, 0), (.iload_n 3, 1, 0, 0), (.ifCond .lt 9, 3, 35, 0), (.iload_n 3, 1, 0, 0), (.bipush 63, 2, 63, 0), (.if_icmp .le 7, 3, 39, 0)]
def kb_159_35 : List pb_El := [(.ldc2_w 159, 3, 0, 0), (.lreturn, 1, 0, 0)]
def kb_159_39 : List pb_El := [(.aload_n 0, 1, 0, 0), (.getfield 69, 3, 10, 9), (.aload 5, 2, 0, 0), (.invokevirtual 201, 3, 60, 2), (.aload_n 0, 1, 0, 0), (.getfield 69, 3, 10, 9), (.iload_n 2, 1, 0, 0), (.iload_n 3, 1, 0, 0), (.invokevirtual 308, 3, 67, 3), (.i2l, 1, 0, 0), (.aload_n 0, 1, 0, 0), (.getfield 69, 3, 10, 9), (.getfield 311, 3, 3, 0), (.i2l, 1, 0, 0), (.iload 4, 2, 0, 0), (.invokestatic 172, 3, 165, 3), (.lreturn, 1, 0, 0)]
/-- PointedBench.odds(IIIZ)J -/
def kc_159 : List (Nat × List pb_El) := [(0, kb_159_0), (35, kb_159_35), (39, kb_159_39)]
def kb_160_0 : List pb_El := [(.aload_n 0, 1, 0, 0), (.getfield 10, 3, 10, 0), (.iload_n 1, 1, 0, 0), (.invokevirtual 198, 3, 107, 2), (.astore_n 3, 1, 0, 0), (.aload_n 3, 1, 0, 0), (.ifnonnull 5, 3, 15, 0), (.iconst (-1), 1, 1, 1), (.ireturn, 1, 0, 0)]
def kb_160_15 : List pb_El := [(.aload_n 0, 1, 0, 0), (.getfield 69, 3, 10, 9), (.aload_n 3, 1, 0, 0), (.invokevirtual 201, 3, 60, 2), (.iload_n 2, 1, 0, 0), (.ifCond .eq 13, 3, 37, 0), (.aload_n 0, 1, 0, 0), (.getfield 69, 3, 10, 9), (.invokevirtual 314, 3, 69, 1), (.goto 10, 3, 44, 0)]
def kb_160_37 : List pb_El := [(.aload_n 0, 1, 0, 0), (.getfield 69, 3, 10, 9), (.invokevirtual 317, 3, 68, 1)]
def kb_160_44 : List pb_El := [(.ireturn, 1, 0, 0)]
/-- PointedBench.low(IZ)I -/
def kc_160 : List (Nat × List pb_El) := [(0, kb_160_0), (15, kb_160_15), (37, kb_160_37), (44, kb_160_44)]
def kb_161_0 : List pb_El := [(.iload_n 1, 1, 0, 0), (.ifCond .lt 8, 3, 9, 0), (.iload_n 1, 1, 0, 0), (.iconst 3, 1, 3, 0), (.if_icmp .lt 8, 3, 14, 0)]
def kb_161_9 : List pb_El := [(.bipush (-2), 2, 2, 1), (.goto 12, 3, 23, 0)]
def kb_161_14 : List pb_El := [(.aload_n 0, 1, 0, 0), (.getfield 10, 3, 10, 0), (.getfield 320, 3, 7, 3), (.iload_n 1, 1, 0, 0), (.iaload, 1, 0, 0)]
def kb_161_23 : List pb_El := [(.ireturn, 1, 0, 0)]
/-- PointedBench.count(I)I -/
def kc_161 : List (Nat × List pb_El) := [(0, kb_161_0), (9, kb_161_9), (14, kb_161_14), (23, kb_161_23)]
def kb_162_0 : List pb_El := [(.iload_n 1, 1, 0, 0), (.ifCond .lt 8, 3, 9, 0), (.iload_n 1, 1, 0, 0), (.iconst 3, 1, 3, 0), (.if_icmp .lt 5, 3, 11, 0)]
def kb_162_9 : List pb_El := [(.iconst 0, 1, 0, 0), (.ireturn, 1, 0, 0)]
def kb_162_11 : List pb_El := [(.aload_n 0, 1, 0, 0), (.getfield 16, 3, 10, 1), (.iload_n 1, 1, 0, 0), (.aaload, 1, 17, 7), (.aload_n 0, 1, 0, 0), (.getfield 10, 3, 10, 0), (.invokevirtual 323, 3, 101, 2), (.aload_n 0, 1, 0, 0), (.getfield 20, 3, 10, 2), (.iload_n 1, 1, 0, 0), (.iconst 1, 1, 1, 0), (.bastore, 1, 14, 0), (.iconst 1, 1, 1, 0), (.ireturn, 1, 0, 0)]
/-- PointedBench.image(I)Z -/
def kc_162 : List (Nat × List pb_El) := [(0, kb_162_0), (9, kb_162_9), (11, kb_162_11)]
def kb_163_0 : List pb_El := [(.iload_n 1, 1, 0, 0), (.ifCond .lt 17, 3, 18, 0), (.iload_n 1, 1, 0, 0), (.iconst 3, 1, 3, 0), (.if_icmp .ge 12, 3, 18, 0), (.aload_n 0, 1, 0, 0), (.getfield 20, 3, 10, 2), (.iload_n 1, 1, 0, 0), (.baload, 1, 14, 0), (.ifCond .ne 5, 3, 20, 0)]
def kb_163_18 : List pb_El := [(.iconst 0, 1, 0, 0), (.ireturn, 1, 0, 0)]
def kb_163_20 : List pb_El := [(.aload_n 0, 1, 0, 0), (.getfield 10, 3, 10, 0), (.aload_n 0, 1, 0, 0), (.getfield 16, 3, 10, 1), (.iload_n 1, 1, 0, 0), (.aaload, 1, 17, 7), (.invokevirtual 323, 3, 101, 2), (.iconst 1, 1, 1, 0), (.ireturn, 1, 0, 0)]
/-- PointedBench.again(I)Z -/
def kc_163 : List (Nat × List pb_El) := [(0, kb_163_0), (18, kb_163_18), (20, kb_163_20)]
def kb_164_0 : List pb_El := [(.iload_n 0, 1, 0, 0), (.iconst (-1), 1, 1, 1), (.if_icmp .eq 7, 3, 9, 0), (.iload_n 1, 1, 0, 0), (.ifCond .eq 7, 3, 13, 0)]
def kb_164_9 : List pb_El := [(.iload_n 0, 1, 0, 0), (.goto 7, 3, 17, 0)]
def kb_164_13 : List pb_El := [(.iload_n 0, 1, 0, 0), (.invokestatic 167, 3, 305, 1)]
def kb_164_17 : List pb_El := [(.ireturn, 1, 0, 0)]
/-- PointedBench.manyOrWhich(IZ)I -/
def kc_164 : List (Nat × List pb_El) := [(0, kb_164_0), (9, kb_164_9), (13, kb_164_13), (17, kb_164_17)]
def kb_165_0 : List pb_El := [(.lload_n 2, 1, 0, 0), (.lconst 0, 1, 0, 0), (.lcmp, 1, 0, 0), (.ifCond .gt 7, 3, 10, 0), (.ldc2_w 159, 3, 0, 0), (.lreturn, 1, 0, 0)]
def kb_165_10 : List pb_El := [(.lload_n 2, 1, 0, 0), (.lstore 5, 2, 0, 0), (.lload_n 0, 1, 0, 0), (.lstore 7, 2, 0, 0), (.iconst 0, 1, 0, 0), (.istore 9, 2, 0, 0)]
def kb_165_19 : List pb_El := [(.iload 9, 2, 0, 0), (.bipush 100, 2, 100, 0), (.if_icmp .ge 31, 3, 54, 0), (.lload 7, 2, 0, 0), (.lconst 0, 1, 0, 0), (.lcmp, 1, 0, 0), (.ifCond .eq 24, 3, 54, 0), (.lload 5, 2, 0, 0), (.lload 7, 2, 0, 0), (.lrem, 1, 0, 0), (.lstore 10, 2, 0, 0), (.lload 7, 2, 0, 0), (.lstore 5, 2, 0, 0), (.lload 10, 2, 0, 0), (.lstore 7, 2, 0, 0), (.iinc 9 1, 3, 1, 0), (.goto (-32), 3, 19, 0)]
def kb_165_54 : List pb_El := [(.lload 5, 2, 0, 0), (.lconst 0, 1, 0, 0), (.lcmp, 1, 0, 0), (.ifCond .ne 9, 3, 67, 0), (.ldc2_w 159, 3, 0, 0), (.goto 16, 3, 80, 0)]
def kb_165_67 : List pb_El := [(.iload 4, 2, 0, 0), (.ifCond .eq 7, 3, 76, 0), (.lload_n 2, 1, 0, 0), (.goto 4, 3, 77, 0)]
def kb_165_76 : List pb_El := [(.lload_n 0, 1, 0, 0)]
def kb_165_77 : List pb_El := [(.lload 5, 2, 0, 0), (.ldiv, 1, 0, 0)]
def kb_165_80 : List pb_El := [(.lreturn, 1, 0, 0)]
/-- PointedBench.leastTerms(JJZ)J -/
def kc_165 : List (Nat × List pb_El) := [(0, kb_165_0), (10, kb_165_10), (19, kb_165_19), (54, kb_165_54), (67, kb_165_67), (76, kb_165_76), (77, kb_165_77), (80, kb_165_80)]
def kb_166_0 : List pb_El := [(.lconst 1, 1, 0, 0), (.lstore_n 3, 1, 0, 0), (.iconst 0, 1, 0, 0), (.istore 5, 2, 0, 0)]
def kb_166_5 : List pb_El := [(.iload 5, 2, 0, 0), (.iload_n 2, 1, 0, 0), (.if_icmp .ge 13, 3, 21, 0), (.lload_n 3, 1, 0, 0), (.lload_n 0, 1, 0, 0), (.lmul, 1, 0, 0), (.lstore_n 3, 1, 0, 0), (.iinc 5 1, 3, 1, 0), (.goto (-13), 3, 5, 0)]
def kb_166_21 : List pb_El := [(.lload_n 3, 1, 0, 0), (.lreturn, 1, 0, 0)]
/-- PointedBench.raised(JI)J -/
def kc_166 : List (Nat × List pb_El) := [(0, kb_166_0), (5, kb_166_5), (21, kb_166_21)]
def kb_167_0 : List pb_El := [(.aload_n 0, 1, 0, 0), (.invokespecial 1, 3, 1001, 1), (.aload_n 0, 1, 0, 0), (.sipush 2400, 3, 2400, 0), (.newarray .byte, 2, 13, 0), (.putfield 7, 3, 11, 1), (.aload_n 0, 1, 0, 0), (.iconst 4, 1, 4, 0), (.newarray .int, 2, 12, 0), (.putfield 13, 3, 11, 2), (.aload_n 0, 1, 0, 0), (.iconst 4, 1, 4, 0), (.newarray .int, 2, 12, 0), (.putfield 17, 3, 11, 3), (.aload_n 0, 1, 0, 0), (.iconst 4, 1, 4, 0), (.newarray .int, 2, 12, 0), (.putfield 20, 3, 11, 4), (.aload_n 0, 1, 0, 0), (.bipush 12, 2, 12, 0), (.newarray .int, 2, 12, 0), (.putfield 23, 3, 11, 5), (.aload_n 0, 1, 0, 0), (.sipush 544, 3, 544, 0), (.newarray .int, 2, 12, 0), (.putfield 26, 3, 11, 6), (.aload_n 0, 1, 0, 0), (.sipush 1288, 3, 1288, 0), (.newarray .int, 2, 12, 0), (.putfield 29, 3, 11, 7), (.aload_n 0, 1, 0, 0), (.sipush 200, 3, 200, 0), (.newarray .int, 2, 12, 0), (.putfield 32, 3, 11, 8), (.aload_n 0, 1, 0, 0), (.sipush 161, 3, 161, 0), (.newarray .int, 2, 12, 0), (.putfield 35, 3, 11, 18), (.aload_n 0, 1, 0, 0), (.iconst 4, 1, 4, 0), (.newarray .int, 2, 12, 0), (.putfield 38, 3, 11, 19), (.aload_n 0, 1, 0, 0), (.bipush 6, 2, 6, 0), (.newarray .int, 2, 12, 0), (.putfield 41, 3, 11, 30), (.aload_n 0, 1, 0, 0), (.bipush 6, 2, 6, 0), (.newarray .int, 2, 12, 0), (.putfield 44, 3, 11, 31), (.aload_n 0, 1, 0, 0), (.bipush 6, 2, 6, 0), (.newarray .int, 2, 12, 0), (.putfield 47, 3, 11, 32), (.aload_n 0, 1, 0, 0), (.bipush 6, 2, 6, 0), (.newarray .int, 2, 12, 0), (.putfield 50, 3, 11, 33), (.aload_n 0, 1, 0, 0), (.bipush 36, 2, 36, 0), (.newarray .int, 2, 12, 0), (.putfield 53, 3, 11, 34), (.aload_n 0, 1, 0, 0), (.bipush 6, 2, 6, 0), (.newarray .int, 2, 12, 0), (.putfield 56, 3, 11, 35), (.aload_n 0, 1, 0, 0), (.sipush 2401, 3, 2401, 0), (.newarray .int, 2, 12, 0), (.putfield 59, 3, 11, 37), (.aload_n 0, 1, 0, 0), (.sipush 729, 3, 729, 0), (.newarray .int, 2, 12, 0), (.putfield 62, 3, 11, 40), (.aload_n 0, 1, 0, 0), (.bipush 6, 2, 6, 0), (.newarray .int, 2, 12, 0), (.putfield 65, 3, 11, 43), (.aload_n 0, 1, 0, 0), (.bipush 6, 2, 6, 0), (.newarray .int, 2, 12, 0), (.putfield 68, 3, 11, 44), (.aload_n 0, 1, 0, 0), (.bipush 6, 2, 6, 0), (.newarray .int, 2, 12, 0), (.putfield 71, 3, 11, 45), (.aload_n 0, 1, 0, 0), (.bipush 6, 2, 6, 0), (.newarray .int, 2, 12, 0), (.putfield 74, 3, 11, 46), (.aload_n 0, 1, 0, 0), (.iconst 3, 1, 3, 0), (.newarray .boolean, 2, 14, 0), (.putfield 77, 3, 11, 51), (.aload_n 0, 1, 0, 0), (.getfield 20, 3, 11, 4), (.iconst 0, 1, 0, 0), (.iconst (-1), 1, 1, 1), (.iastore, 1, 0, 0), (.return_, 1, 0, 0)]
/-- PointedBenchModel.<init>()V -/
def kc_167 : List (Nat × List pb_El) := [(0, kb_167_0)]
def kb_168_0 : List pb_El := [(.iload_n 0, 1, 0, 0), (.iload_n 1, 1, 0, 0), (.if_icmp .lt 12, 3, 14, 0), (.iload_n 0, 1, 0, 0), (.iload_n 2, 1, 0, 0), (.if_icmp .gt 7, 3, 14, 0), (.iconst 1, 1, 1, 0), (.goto 4, 3, 15, 0)]
def kb_168_14 : List pb_El := [(.iconst 0, 1, 0, 0)]
def kb_168_15 : List pb_El := [(.ireturn, 1, 0, 0)]
/-- PointedBenchModel.in(III)Z -/
def kc_168 : List (Nat × List pb_El) := [(0, kb_168_0), (14, kb_168_14), (15, kb_168_15)]
def kb_169_0 : List pb_El := [(.iload_n 0, 1, 0, 0), (.iload_n 1, 1, 0, 0), (.ishr, 1, 0, 0), (.iconst 1, 1, 1, 0), (.iand, 1, 0, 0), (.iconst 1, 1, 1, 0), (.if_icmp .ne 7, 3, 13, 0), (.iconst 1, 1, 1, 0), (.goto 4, 3, 14, 0)]
def kb_169_13 : List pb_El := [(.iconst 0, 1, 0, 0)]
def kb_169_14 : List pb_El := [(.ireturn, 1, 0, 0)]
/-- PointedBenchModel.has(II)Z -/
def kc_169 : List (Nat × List pb_El) := [(0, kb_169_0), (13, kb_169_13), (14, kb_169_14)]
def kb_170_0 : List pb_El := [(.iload_n 0, 1, 0, 0), (.iload_n 1, 1, 0, 0), (.if_icmp .le 7, 3, 9, 0), (.iload_n 0, 1, 0, 0), (.goto 4, 3, 10, 0)]
def kb_170_9 : List pb_El := [(.iload_n 1, 1, 0, 0)]
def kb_170_10 : List pb_El := [(.ireturn, 1, 0, 0)]
/-- PointedBenchModel.greater(II)I -/
def kc_170 : List (Nat × List pb_El) := [(0, kb_170_0), (9, kb_170_9), (10, kb_170_10)]
def kb_171_0 : List pb_El := [(.iload_n 0, 1, 0, 0), (.iload_n 1, 1, 0, 0), (.if_icmp .ge 7, 3, 9, 0), (.iload_n 0, 1, 0, 0), (.goto 4, 3, 10, 0)]
def kb_171_9 : List pb_El := [(.iload_n 1, 1, 0, 0)]
def kb_171_10 : List pb_El := [(.ireturn, 1, 0, 0)]
/-- PointedBenchModel.lesser(II)I -/
def kc_171 : List (Nat × List pb_El) := [(0, kb_171_0), (9, kb_171_9), (10, kb_171_10)]
def kb_172_0 : List pb_El := [(.iconst 0, 1, 0, 0), (.istore_n 1, 1, 0, 0), (.iconst 0, 1, 0, 0), (.istore_n 2, 1, 0, 0)]
def kb_172_4 : List pb_El := [(.iload_n 2, 1, 0, 0), (.bipush 6, 2, 6, 0), (.if_icmp .ge 25, 3, 32, 0), (.iload_n 1, 1, 0, 0), (.iload_n 0, 1, 0, 0), (.iload_n 2, 1, 0, 0), (.invokestatic 85, 3, 169, 2), (.ifCond .eq 7, 3, 23, 0), (.iconst 1, 1, 1, 0), (.goto 4, 3, 24, 0)]
def kb_172_23 : List pb_El := [(.iconst 0, 1, 0, 0)]
def kb_172_24 : List pb_El := [(.iadd, 1, 0, 0), (.istore_n 1, 1, 0, 0), (.iinc 2 1, 3, 1, 0), (.goto (-25), 3, 4, 0)]
def kb_172_32 : List pb_El := [(.iload_n 1, 1, 0, 0), (.ireturn, 1, 0, 0)]
/-- PointedBenchModel.ones(I)I -/
def kc_172 : List (Nat × List pb_El) := [(0, kb_172_0), (4, kb_172_4), (23, kb_172_23), (24, kb_172_24), (32, kb_172_32)]
def kb_173_0 : List pb_El := [(.iconst 0, 1, 0, 0), (.istore 4, 2, 0, 0)]
def kb_173_3 : List pb_El := [(.iload 4, 2, 0, 0), (.iload_n 1, 1, 0, 0), (.if_icmp .ge 25, 3, 31, 0), (.aload_n 0, 1, 0, 0), (.iload_n 1, 1, 0, 0), (.iload_n 3, 1, 0, 0), (.imul, 1, 0, 0), (.iload 4, 2, 0, 0), (.iadd, 1, 0, 0), (.aload_n 0, 1, 0, 0), (.iload_n 1, 1, 0, 0), (.iload_n 2, 1, 0, 0), (.imul, 1, 0, 0), (.iload 4, 2, 0, 0), (.iadd, 1, 0, 0), (.iaload, 1, 0, 0), (.iastore, 1, 0, 0), (.iinc 4 1, 3, 1, 0), (.goto (-25), 3, 3, 0)]
def kb_173_31 : List pb_El := [(.return_, 1, 0, 0)]
/-- PointedBenchModel.copyRow([IIII)V -/
def kc_173 : List (Nat × List pb_El) := [(0, kb_173_0), (3, kb_173_3), (31, kb_173_31)]
def kb_174_0 : List pb_El := [(.iconst 0, 1, 0, 0), (.istore_n 3, 1, 0, 0)]
def kb_174_2 : List pb_El := [(.iload_n 3, 1, 0, 0), (.sipush 600, 3, 600, 0), (.if_icmp .ge 33, 3, 39, 0), (.aload_n 0, 1, 0, 0), (.getfield 7, 3, 11, 1), (.sipush 600, 3, 600, 0), (.iload_n 2, 1, 0, 0), (.imul, 1, 0, 0), (.iload_n 3, 1, 0, 0), (.iadd, 1, 0, 0), (.aload_n 0, 1, 0, 0), (.getfield 7, 3, 11, 1), (.sipush 600, 3, 600, 0), (.iload_n 1, 1, 0, 0), (.imul, 1, 0, 0), (.iload_n 3, 1, 0, 0), (.iadd, 1, 0, 0), (.baload, 1, 13, 0), (.bastore, 1, 13, 0), (.iinc 3 1, 3, 1, 0), (.goto (-34), 3, 2, 0)]
def kb_174_39 : List pb_El := [(.aload_n 0, 1, 0, 0), (.getfield 13, 3, 11, 2), (.iconst 1, 1, 1, 0), (.iload_n 1, 1, 0, 0), (.iload_n 2, 1, 0, 0), (.invokestatic 89, 3, 173, 4), (.aload_n 0, 1, 0, 0), (.getfield 17, 3, 11, 3), (.iconst 1, 1, 1, 0), (.iload_n 1, 1, 0, 0), (.iload_n 2, 1, 0, 0), (.invokestatic 89, 3, 173, 4), (.aload_n 0, 1, 0, 0), (.getfield 20, 3, 11, 4), (.iconst 1, 1, 1, 0), (.iload_n 1, 1, 0, 0), (.iload_n 2, 1, 0, 0), (.invokestatic 89, 3, 173, 4), (.aload_n 0, 1, 0, 0), (.getfield 23, 3, 11, 5), (.iconst 3, 1, 3, 0), (.iload_n 1, 1, 0, 0), (.iload_n 2, 1, 0, 0), (.invokestatic 89, 3, 173, 4), (.aload_n 0, 1, 0, 0), (.getfield 26, 3, 11, 6), (.sipush 136, 3, 136, 0), (.iload_n 1, 1, 0, 0), (.iload_n 2, 1, 0, 0), (.invokestatic 89, 3, 173, 4), (.aload_n 0, 1, 0, 0), (.getfield 29, 3, 11, 7), (.sipush 322, 3, 322, 0), (.iload_n 1, 1, 0, 0), (.iload_n 2, 1, 0, 0), (.invokestatic 89, 3, 173, 4), (.aload_n 0, 1, 0, 0), (.getfield 32, 3, 11, 8), (.bipush 50, 2, 50, 0), (.iload_n 1, 1, 0, 0), (.iload_n 2, 1, 0, 0), (.invokestatic 89, 3, 173, 4), (.return_, 1, 0, 0)]
/-- PointedBenchModel.copyAll(II)V -/
def kc_174 : List (Nat × List pb_El) := [(0, kb_174_0), (2, kb_174_2), (39, kb_174_39)]
def kb_175_0 : List pb_El := [(.iload_n 2, 1, 0, 0), (.iconst 0, 1, 0, 0), (.aload_n 0, 1, 0, 0), (.getfield 23, 3, 11, 5), (.iload_n 1, 1, 0, 0), (.iaload, 1, 0, 0), (.iconst 1, 1, 1, 0), (.isub, 1, 0, 0), (.invokestatic 93, 3, 168, 3), (.ireturn, 1, 0, 0)]
/-- PointedBenchModel.is(II)Z -/
def kc_175 : List (Nat × List pb_El) := [(0, kb_175_0)]
def kb_176_0 : List pb_El := [(.aload_n 0, 1, 0, 0), (.iconst 0, 1, 0, 0), (.putfield 81, 3, 11, 0), (.aload_n 0, 1, 0, 0), (.getfield 13, 3, 11, 2), (.iconst 0, 1, 0, 0), (.iaload, 1, 0, 0), (.bipush 20, 2, 20, 0), (.iadd, 1, 0, 0), (.sipush 600, 3, 600, 0), (.if_icmp .le 5, 3, 22, 0), (.iconst (-1), 1, 1, 1), (.ireturn, 1, 0, 0)]
def kb_176_22 : List pb_El := [(.aload_n 0, 1, 0, 0), (.iload_n 1, 1, 0, 0), (.invokevirtual 97, 3, 177, 2), (.aload_n 0, 1, 0, 0), (.iload_n 2, 1, 0, 0), (.invokevirtual 97, 3, 177, 2), (.aload_n 0, 1, 0, 0), (.iload_n 3, 1, 0, 0), (.invokevirtual 97, 3, 177, 2), (.aload_n 0, 1, 0, 0), (.iload 4, 2, 0, 0), (.invokevirtual 97, 3, 177, 2), (.aload_n 0, 1, 0, 0), (.iload 5, 2, 0, 0), (.invokevirtual 97, 3, 177, 2), (.aload_n 0, 1, 0, 0), (.getfield 13, 3, 11, 2), (.iconst 0, 1, 0, 0), (.iaload, 1, 0, 0), (.ireturn, 1, 0, 0)]
/-- PointedBenchModel.feed(IIIII)I -/
def kc_176 : List (Nat × List pb_El) := [(0, kb_176_0), (22, kb_176_22)]
def kb_177_0 : List pb_El := [(.bipush 24, 2, 24, 0), (.istore_n 2, 1, 0, 0)]
def kb_177_3 : List pb_El := [(.iload_n 2, 1, 0, 0), (.ifCond .lt 34, 3, 38, 0), (.aload_n 0, 1, 0, 0), (.getfield 7, 3, 11, 1), (.aload_n 0, 1, 0, 0), (.getfield 13, 3, 11, 2), (.iconst 0, 1, 0, 0), (.iaload, 1, 0, 0), (.iload_n 1, 1, 0, 0), (.iload_n 2, 1, 0, 0), (.ishr, 1, 0, 0), (.i2b, 1, 0, 0), (.bastore, 1, 13, 0), (.aload_n 0, 1, 0, 0), (.getfield 13, 3, 11, 2), (.iconst 0, 1, 0, 0), (.dup2, 1, 0, 0), (.iaload, 1, 0, 0), (.iconst 1, 1, 1, 0), (.iadd, 1, 0, 0), (.iastore, 1, 0, 0), (.iinc 2 (-8), 3, 8, 1), (.goto (-32), 3, 3, 0)]
def kb_177_38 : List pb_El := [(.return_, 1, 0, 0)]
/-- PointedBenchModel.four(I)V -/
def kc_177 : List (Nat × List pb_El) := [(0, kb_177_0), (3, kb_177_3), (38, kb_177_38)]
def kb_178_0 : List pb_El := [(.aload_n 0, 1, 0, 0), (.iconst 0, 1, 0, 0), (.putfield 81, 3, 11, 0), (.iload_n 1, 1, 0, 0), (.iconst 0, 1, 0, 0), (.aload_n 0, 1, 0, 0), (.getfield 13, 3, 11, 2), (.iconst 0, 1, 0, 0), (.iaload, 1, 0, 0), (.invokestatic 93, 3, 168, 3), (.ifCond .ne 5, 3, 21, 0), (.iconst (-1), 1, 1, 1), (.ireturn, 1, 0, 0)]
def kb_178_21 : List pb_El := [(.aload_n 0, 1, 0, 0), (.getfield 13, 3, 11, 2), (.iconst 0, 1, 0, 0), (.iload_n 1, 1, 0, 0), (.iastore, 1, 0, 0), (.iload_n 1, 1, 0, 0), (.ireturn, 1, 0, 0)]
/-- PointedBenchModel.end(I)I -/
def kc_178 : List (Nat × List pb_El) := [(0, kb_178_0), (21, kb_178_21)]
def kb_179_0 : List pb_El := [(.aload_n 0, 1, 0, 0), (.getfield 101, 3, 11, 9), (.aload_n 0, 1, 0, 0), (.getfield 104, 3, 11, 10), (.if_icmp .ge 19, 3, 27, 0), (.aload_n 0, 1, 0, 0), (.getfield 7, 3, 11, 1), (.aload_n 0, 1, 0, 0), (.getfield 101, 3, 11, 9), (.baload, 1, 13, 0), (.sipush 255, 3, 255, 0), (.iand, 1, 0, 0), (.goto 4, 3, 28, 0)]
def kb_179_27 : List pb_El := [(.iconst (-1), 1, 1, 1)]
def kb_179_28 : List pb_El := [(.ireturn, 1, 0, 0)]
/-- PointedBenchModel.see()I -/
def kc_179 : List (Nat × List pb_El) := [(0, kb_179_0), (27, kb_179_27), (28, kb_179_28)]
def kb_180_0 : List pb_El := [(.aload_n 0, 1, 0, 0), (.invokevirtual 107, 3, 179, 1), (.bipush 10, 2, 10, 0), (.if_icmp .eq 12, 3, 18, 0), (.aload_n 0, 1, 0, 0), (.invokevirtual 107, 3, 179, 1), (.bipush 32, 2, 32, 0), (.if_icmp .ne 16, 3, 31, 0)]
def kb_180_18 : List pb_El := [(.aload_n 0, 1, 0, 0), (.dup, 1, 0, 0), (.getfield 101, 3, 11, 9), (.iconst 1, 1, 1, 0), (.iadd, 1, 0, 0), (.putfield 101, 3, 11, 9), (.goto (-28), 3, 0, 0)]
def kb_180_31 : List pb_El := [(.aload_n 0, 1, 0, 0), (.aload_n 0, 1, 0, 0), (.getfield 101, 3, 11, 9), (.putfield 111, 3, 11, 11), (.aload_n 0, 1, 0, 0), (.invokevirtual 107, 3, 179, 1), (.istore_n 1, 1, 0, 0), (.aload_n 0, 1, 0, 0), (.lconst 0, 1, 0, 0), (.putfield 114, 3, 11, 14), (.iconst 0, 1, 0, 0), (.istore_n 2, 1, 0, 0), (.iload_n 1, 1, 0, 0), (.ifCond .ge 11, 3, 63, 0), (.aload_n 0, 1, 0, 0), (.iconst 0, 1, 0, 0), (.putfield 118, 3, 11, 12), (.goto 206, 3, 266, 0)]
def kb_180_63 : List pb_El := [(.iload_n 1, 1, 0, 0), (.bipush 97, 2, 97, 0), (.bipush 122, 2, 122, 0), (.invokestatic 93, 3, 168, 3), (.ifCond .eq 76, 3, 147, 0)]
def kb_180_74 : List pb_El := [(.aload_n 0, 1, 0, 0), (.invokevirtual 107, 3, 179, 1), (.bipush 97, 2, 97, 0), (.bipush 122, 2, 122, 0), (.invokestatic 93, 3, 168, 3), (.ifCond .eq 36, 3, 121, 0), (.aload_n 0, 1, 0, 0), (.aload_n 0, 1, 0, 0), (.getfield 114, 3, 11, 14), (.bipush 8, 2, 8, 0), (.lshl, 1, 0, 0), (.aload_n 0, 1, 0, 0), (.invokevirtual 107, 3, 179, 1), (.i2l, 1, 0, 0), (.lor, 1, 0, 0), (.putfield 114, 3, 11, 14), (.aload_n 0, 1, 0, 0), (.dup, 1, 0, 0), (.getfield 101, 3, 11, 9), (.iconst 1, 1, 1, 0), (.iadd, 1, 0, 0), (.putfield 101, 3, 11, 9), (.iinc 2 1, 3, 1, 0), (.goto (-44), 3, 74, 0)]
def kb_180_121 : List pb_El := [(.aload_n 0, 1, 0, 0), (.iload_n 2, 1, 0, 0), (.bipush 8, 2, 8, 0), (.if_icmp .le 7, 3, 132, 0), (.lconst 0, 1, 0, 0), (.goto 7, 3, 136, 0)]
def kb_180_132 : List pb_El := [(.aload_n 0, 1, 0, 0), (.getfield 114, 3, 11, 14)]
def kb_180_136 : List pb_El := [(.putfield 114, 3, 11, 14), (.aload_n 0, 1, 0, 0), (.iconst 2, 1, 2, 0), (.putfield 118, 3, 11, 12), (.goto 122, 3, 266, 0)]
def kb_180_147 : List pb_El := [(.iload_n 1, 1, 0, 0), (.bipush 48, 2, 48, 0), (.bipush 57, 2, 57, 0), (.invokestatic 93, 3, 168, 3), (.ifCond .eq 86, 3, 241, 0), (.aload_n 0, 1, 0, 0), (.iconst 0, 1, 0, 0), (.putfield 121, 3, 11, 13)]
def kb_180_163 : List pb_El := [(.aload_n 0, 1, 0, 0), (.invokevirtual 107, 3, 179, 1), (.bipush 48, 2, 48, 0), (.bipush 57, 2, 57, 0), (.invokestatic 93, 3, 168, 3), (.ifCond .eq 50, 3, 224, 0), (.aload_n 0, 1, 0, 0), (.iload_n 2, 1, 0, 0), (.iconst 2, 1, 2, 0), (.if_icmp .ge 21, 3, 201, 0), (.bipush 10, 2, 10, 0), (.aload_n 0, 1, 0, 0), (.getfield 121, 3, 11, 13), (.imul, 1, 0, 0), (.aload_n 0, 1, 0, 0), (.invokevirtual 107, 3, 179, 1), (.iadd, 1, 0, 0), (.bipush 48, 2, 48, 0), (.isub, 1, 0, 0), (.goto 7, 3, 205, 0)]
def kb_180_201 : List pb_El := [(.aload_n 0, 1, 0, 0), (.getfield 121, 3, 11, 13)]
def kb_180_205 : List pb_El := [(.putfield 121, 3, 11, 13), (.aload_n 0, 1, 0, 0), (.dup, 1, 0, 0), (.getfield 101, 3, 11, 9), (.iconst 1, 1, 1, 0), (.iadd, 1, 0, 0), (.putfield 101, 3, 11, 9), (.iinc 2 1, 3, 1, 0), (.goto (-58), 3, 163, 0)]
def kb_180_224 : List pb_El := [(.aload_n 0, 1, 0, 0), (.iload_n 2, 1, 0, 0), (.iconst 2, 1, 2, 0), (.if_icmp .le 7, 3, 234, 0), (.iconst 1, 1, 1, 0), (.goto 4, 3, 235, 0)]
def kb_180_234 : List pb_El := [(.iconst 3, 1, 3, 0)]
def kb_180_235 : List pb_El := [(.putfield 118, 3, 11, 12), (.goto 28, 3, 266, 0)]
def kb_180_241 : List pb_El := [(.aload_n 0, 1, 0, 0), (.dup, 1, 0, 0), (.getfield 101, 3, 11, 9), (.iconst 1, 1, 1, 0), (.iadd, 1, 0, 0), (.putfield 101, 3, 11, 9), (.aload_n 0, 1, 0, 0), (.iload_n 1, 1, 0, 0), (.bipush 59, 2, 59, 0), (.if_icmp .ne 7, 3, 262, 0), (.iconst 4, 1, 4, 0), (.goto 4, 3, 263, 0)]
def kb_180_262 : List pb_El := [(.iconst 1, 1, 1, 0)]
def kb_180_263 : List pb_El := [(.putfield 118, 3, 11, 12)]
def kb_180_266 : List pb_El := [(.return_, 1, 0, 0)]
/-- PointedBenchModel.token()V -/
def kc_180 : List (Nat × List pb_El) := [(0, kb_180_0), (18, kb_180_18), (31, kb_180_31), (63, kb_180_63), (74, kb_180_74), (121, kb_180_121), (132, kb_180_132), (136, kb_180_136), (147, kb_180_147), (163, kb_180_163), (201, kb_180_201), (205, kb_180_205), (224, kb_180_224), (234, kb_180_234), (235, kb_180_235), (241, kb_180_241), (262, kb_180_262), (263, kb_180_263), (266, kb_180_266)]
def kb_181_0 : List pb_El := [(.aload_n 0, 1, 0, 0), (.aload_n 0, 1, 0, 0), (.getfield 111, 3, 11, 11), (.putfield 124, 3, 11, 15), (.iconst 0, 1, 0, 0), (.ireturn, 1, 0, 0)]
/-- PointedBenchModel.fails()Z -/
def kc_181 : List (Nat × List pb_El) := [(0, kb_181_0)]
def kb_182_0 : List pb_El := [(.aload_n 0, 1, 0, 0), (.getfield 127, 3, 11, 16), (.ifCond .eq 27, 3, 31, 0), (.iload_n 2, 1, 0, 0), (.aload_n 0, 1, 0, 0), (.getfield 130, 3, 11, 17), (.if_icmp .lt 19, 3, 31, 0), (.iload_n 2, 1, 0, 0), (.aload_n 0, 1, 0, 0), (.getfield 130, 3, 11, 17), (.if_icmp .ne 21, 3, 41, 0), (.iload_n 1, 1, 0, 0), (.aload_n 0, 1, 0, 0), (.getfield 127, 3, 11, 16), (.if_icmp .ge 13, 3, 41, 0)]
def kb_182_31 : List pb_El := [(.aload_n 0, 1, 0, 0), (.iload_n 1, 1, 0, 0), (.putfield 127, 3, 11, 16), (.aload_n 0, 1, 0, 0), (.iload_n 2, 1, 0, 0), (.putfield 130, 3, 11, 17)]
def kb_182_41 : List pb_El := [(.return_, 1, 0, 0)]
/-- PointedBenchModel.addsFault(II)V -/
def kc_182 : List (Nat × List pb_El) := [(0, kb_182_0), (31, kb_182_31), (41, kb_182_41)]
def kb_183_0 : List pb_El := [(.aload_n 0, 1, 0, 0), (.getfield 118, 3, 11, 12), (.iconst 3, 1, 3, 0), (.if_icmp .eq 8, 3, 13, 0), (.aload_n 0, 1, 0, 0), (.invokevirtual 133, 3, 181, 1), (.ireturn, 1, 0, 0)]
def kb_183_13 : List pb_El := [(.aload_n 0, 1, 0, 0), (.getfield 38, 3, 11, 19), (.iload_n 1, 1, 0, 0), (.aload_n 0, 1, 0, 0), (.getfield 121, 3, 11, 13), (.iastore, 1, 0, 0), (.aload_n 0, 1, 0, 0), (.getfield 121, 3, 11, 13), (.iload_n 2, 1, 0, 0), (.iload_n 3, 1, 0, 0), (.invokestatic 93, 3, 168, 3), (.ifCond .ne 17, 3, 49, 0), (.aload_n 0, 1, 0, 0), (.iconst 2, 1, 2, 0), (.aload_n 0, 1, 0, 0), (.getfield 111, 3, 11, 11), (.invokevirtual 137, 3, 182, 3), (.aload_n 0, 1, 0, 0), (.iconst 0, 1, 0, 0), (.putfield 141, 3, 11, 22)]
def kb_183_49 : List pb_El := [(.aload_n 0, 1, 0, 0), (.invokevirtual 145, 3, 180, 1), (.iconst 1, 1, 1, 0), (.ireturn, 1, 0, 0)]
/-- PointedBenchModel.take(III)Z -/
def kc_183 : List (Nat × List pb_El) := [(0, kb_183_0), (13, kb_183_13), (49, kb_183_49)]
def kb_184_0 : List pb_El := [(.aload_n 0, 1, 0, 0), (.getfield 35, 3, 11, 18), (.iload_n 1, 1, 0, 0), (.iaload, 1, 0, 0), (.iload_n 2, 1, 0, 0), (.if_icmp .ne 9, 3, 16, 0), (.aload_n 0, 1, 0, 0), (.iconst 3, 1, 3, 0), (.iload_n 3, 1, 0, 0), (.invokevirtual 137, 3, 182, 3)]
def kb_184_16 : List pb_El := [(.return_, 1, 0, 0)]
/-- PointedBenchModel.full(III)V -/
def kc_184 : List (Nat × List pb_El) := [(0, kb_184_0), (16, kb_184_16)]
def kb_185_0 : List pb_El := [(.aload_n 0, 1, 0, 0), (.iconst 0, 1, 0, 0), (.bipush 6, 2, 6, 0), (.iload_n 1, 1, 0, 0), (.invokevirtual 148, 3, 184, 4), (.aload_n 0, 1, 0, 0), (.invokevirtual 145, 3, 180, 1), (.aload_n 0, 1, 0, 0), (.iconst 0, 1, 0, 0), (.iconst 0, 1, 0, 0), (.bipush 9, 2, 9, 0), (.invokevirtual 152, 3, 183, 4), (.ifCond .ne 5, 3, 25, 0), (.iconst 0, 1, 0, 0), (.ireturn, 1, 0, 0)]
def kb_185_25 : List pb_El := [(.aload_n 0, 1, 0, 0), (.getfield 35, 3, 11, 18), (.iconst 0, 1, 0, 0), (.iaload, 1, 0, 0), (.istore_n 2, 1, 0, 0), (.iload_n 2, 1, 0, 0), (.bipush 6, 2, 6, 0), (.if_icmp .ge 27, 3, 62, 0), (.aload_n 0, 1, 0, 0), (.getfield 35, 3, 11, 18), (.iconst 2, 1, 2, 0), (.iload_n 2, 1, 0, 0), (.iadd, 1, 0, 0), (.aload_n 0, 1, 0, 0), (.getfield 38, 3, 11, 19), (.iconst 0, 1, 0, 0), (.iaload, 1, 0, 0), (.iastore, 1, 0, 0), (.aload_n 0, 1, 0, 0), (.getfield 35, 3, 11, 18), (.iconst 0, 1, 0, 0), (.dup2, 1, 0, 0), (.iaload, 1, 0, 0), (.iconst 1, 1, 1, 0), (.iadd, 1, 0, 0), (.iastore, 1, 0, 0)]
def kb_185_62 : List pb_El := [(.iconst 1, 1, 1, 0), (.ireturn, 1, 0, 0)]
/-- PointedBenchModel.manLine(I)Z -/
def kc_185 : List (Nat × List pb_El) := [(0, kb_185_0), (25, kb_185_25), (62, kb_185_62)]
def kb_186_0 : List pb_El := [(.aload_n 0, 1, 0, 0), (.iconst 1, 1, 1, 0), (.bipush 6, 2, 6, 0), (.iload_n 1, 1, 0, 0), (.invokevirtual 148, 3, 184, 4), (.aload_n 0, 1, 0, 0), (.invokevirtual 145, 3, 180, 1), (.aload_n 0, 1, 0, 0), (.iconst 0, 1, 0, 0), (.iconst 0, 1, 0, 0), (.bipush 20, 2, 20, 0), (.invokevirtual 152, 3, 183, 4), (.ifCond .eq 14, 3, 34, 0), (.aload_n 0, 1, 0, 0), (.iconst 1, 1, 1, 0), (.iconst 0, 1, 0, 0), (.bipush 30, 2, 30, 0), (.invokevirtual 152, 3, 183, 4), (.ifCond .ne 5, 3, 36, 0)]
def kb_186_34 : List pb_El := [(.iconst 0, 1, 0, 0), (.ireturn, 1, 0, 0)]
def kb_186_36 : List pb_El := [(.aload_n 0, 1, 0, 0), (.getfield 35, 3, 11, 18), (.iconst 1, 1, 1, 0), (.iaload, 1, 0, 0), (.istore_n 2, 1, 0, 0), (.iload_n 2, 1, 0, 0), (.bipush 6, 2, 6, 0), (.if_icmp .ge 43, 3, 89, 0), (.aload_n 0, 1, 0, 0), (.getfield 35, 3, 11, 18), (.bipush 14, 2, 14, 0), (.iload_n 2, 1, 0, 0), (.iadd, 1, 0, 0), (.aload_n 0, 1, 0, 0), (.getfield 38, 3, 11, 19), (.iconst 0, 1, 0, 0), (.iaload, 1, 0, 0), (.iastore, 1, 0, 0), (.aload_n 0, 1, 0, 0), (.getfield 35, 3, 11, 18), (.bipush 20, 2, 20, 0), (.iload_n 2, 1, 0, 0), (.iadd, 1, 0, 0), (.aload_n 0, 1, 0, 0), (.getfield 38, 3, 11, 19), (.iconst 1, 1, 1, 0), (.iaload, 1, 0, 0), (.iastore, 1, 0, 0), (.aload_n 0, 1, 0, 0), (.getfield 35, 3, 11, 18), (.iconst 1, 1, 1, 0), (.dup2, 1, 0, 0), (.iaload, 1, 0, 0), (.iconst 1, 1, 1, 0), (.iadd, 1, 0, 0), (.iastore, 1, 0, 0)]
def kb_186_89 : List pb_El := [(.iconst 1, 1, 1, 0), (.ireturn, 1, 0, 0)]
/-- PointedBenchModel.childLine(I)Z -/
def kc_186 : List (Nat × List pb_El) := [(0, kb_186_0), (34, kb_186_34), (36, kb_186_36), (89, kb_186_89)]
def kb_187_0 : List pb_El := [(.lload_n 1, 1, 0, 0), (.ldc2_w 155, 3, 2, 0), (.lcmp, 1, 0, 0), (.ifCond .ne 9, 3, 14, 0), (.aload_n 0, 1, 0, 0), (.iload_n 3, 1, 0, 0), (.invokevirtual 157, 3, 185, 2), (.ireturn, 1, 0, 0)]
def kb_187_14 : List pb_El := [(.lload_n 1, 1, 0, 0), (.ldc2_w 161, 3, 3, 0), (.lcmp, 1, 0, 0), (.ifCond .ne 9, 3, 28, 0), (.aload_n 0, 1, 0, 0), (.iload_n 3, 1, 0, 0), (.invokevirtual 163, 3, 186, 2), (.ireturn, 1, 0, 0)]
def kb_187_28 : List pb_El := [(.lload_n 1, 1, 0, 0), (.ldc2_w 166, 3, 4, 0), (.lcmp, 1, 0, 0), (.ifCond .eq 24, 3, 57, 0), (.lload_n 1, 1, 0, 0), (.ldc2_w 168, 3, 5, 0), (.lcmp, 1, 0, 0), (.ifCond .eq 16, 3, 57, 0), (.lload_n 1, 1, 0, 0), (.ldc2_w 170, 3, 6, 0), (.lcmp, 1, 0, 0), (.ifCond .eq 8, 3, 57, 0), (.aload_n 0, 1, 0, 0), (.invokevirtual 133, 3, 181, 1), (.ireturn, 1, 0, 0)]
def kb_187_57 : List pb_El := [(.aload_n 0, 1, 0, 0), (.invokevirtual 145, 3, 180, 1), (.aload_n 0, 1, 0, 0), (.iconst 0, 1, 0, 0), (.iconst 0, 1, 0, 0), (.iconst 5, 1, 5, 0), (.invokevirtual 152, 3, 183, 4), (.ifCond .eq 32, 3, 100, 0), (.aload_n 0, 1, 0, 0), (.iconst 1, 1, 1, 0), (.iconst 0, 1, 0, 0), (.iconst 5, 1, 5, 0), (.invokevirtual 152, 3, 183, 4), (.ifCond .eq 22, 3, 100, 0), (.lload_n 1, 1, 0, 0), (.ldc2_w 170, 3, 6, 0), (.lcmp, 1, 0, 0), (.ifCond .ne 16, 3, 102, 0), (.aload_n 0, 1, 0, 0), (.iconst 2, 1, 2, 0), (.iconst 0, 1, 0, 0), (.bipush 9, 2, 9, 0), (.invokevirtual 152, 3, 183, 4), (.ifCond .ne 5, 3, 102, 0)]
def kb_187_100 : List pb_El := [(.iconst 0, 1, 0, 0), (.ireturn, 1, 0, 0)]
def kb_187_102 : List pb_El := [(.aload_n 0, 1, 0, 0), (.lload_n 1, 1, 0, 0), (.ldc2_w 166, 3, 4, 0), (.lcmp, 1, 0, 0), (.ifCond .ne 19, 3, 127, 0), (.aload_n 0, 1, 0, 0), (.getfield 172, 3, 11, 20), (.aload_n 0, 1, 0, 0), (.getfield 38, 3, 11, 19), (.iconst 0, 1, 0, 0), (.iaload, 1, 0, 0), (.invokestatic 175, 3, 170, 2), (.goto 7, 3, 131, 0)]
def kb_187_127 : List pb_El := [(.aload_n 0, 1, 0, 0), (.getfield 172, 3, 11, 20)]
def kb_187_131 : List pb_El := [(.putfield 172, 3, 11, 20), (.aload_n 0, 1, 0, 0), (.lload_n 1, 1, 0, 0), (.ldc2_w 166, 3, 4, 0), (.lcmp, 1, 0, 0), (.ifCond .ne 10, 3, 150, 0), (.aload_n 0, 1, 0, 0), (.getfield 179, 3, 11, 21), (.goto 16, 3, 163, 0)]
def kb_187_150 : List pb_El := [(.aload_n 0, 1, 0, 0), (.getfield 179, 3, 11, 21), (.aload_n 0, 1, 0, 0), (.getfield 38, 3, 11, 19), (.iconst 0, 1, 0, 0), (.iaload, 1, 0, 0), (.invokestatic 175, 3, 170, 2)]
def kb_187_163 : List pb_El := [(.putfield 179, 3, 11, 21), (.aload_n 0, 1, 0, 0), (.getfield 141, 3, 11, 22), (.ifCond .eq 44, 3, 214, 0), (.lload_n 1, 1, 0, 0), (.ldc2_w 170, 3, 6, 0), (.lcmp, 1, 0, 0), (.ifCond .ne 36, 3, 214, 0), (.aload_n 0, 1, 0, 0), (.getfield 35, 3, 11, 18), (.bipush 32, 2, 32, 0), (.bipush 6, 2, 6, 0), (.aload_n 0, 1, 0, 0), (.getfield 38, 3, 11, 19), (.iconst 0, 1, 0, 0), (.iaload, 1, 0, 0), (.imul, 1, 0, 0), (.iadd, 1, 0, 0), (.aload_n 0, 1, 0, 0), (.getfield 38, 3, 11, 19), (.iconst 1, 1, 1, 0), (.iaload, 1, 0, 0), (.iadd, 1, 0, 0), (.aload_n 0, 1, 0, 0), (.getfield 38, 3, 11, 19), (.iconst 2, 1, 2, 0), (.iaload, 1, 0, 0), (.iastore, 1, 0, 0), (.goto 48, 3, 259, 0)]
def kb_187_214 : List pb_El := [(.aload_n 0, 1, 0, 0), (.getfield 141, 3, 11, 22), (.ifCond .eq 41, 3, 259, 0), (.aload_n 0, 1, 0, 0), (.getfield 35, 3, 11, 18), (.lload_n 1, 1, 0, 0), (.ldc2_w 166, 3, 4, 0), (.lcmp, 1, 0, 0), (.ifCond .ne 8, 3, 238, 0), (.bipush 8, 2, 8, 0), (.goto 5, 3, 240, 0)]
def kb_187_238 : List pb_El := [(.bipush 26, 2, 26, 0)]
def kb_187_240 : List pb_El := [(.aload_n 0, 1, 0, 0), (.getfield 38, 3, 11, 19), (.iconst 0, 1, 0, 0), (.iaload, 1, 0, 0), (.iadd, 1, 0, 0), (.dup2, 1, 0, 0), (.iaload, 1, 0, 0), (.iconst 1, 1, 1, 0), (.aload_n 0, 1, 0, 0), (.getfield 38, 3, 11, 19), (.iconst 1, 1, 1, 0), (.iaload, 1, 0, 0), (.ishl, 1, 0, 0), (.ior, 1, 0, 0), (.iastore, 1, 0, 0)]
def kb_187_259 : List pb_El := [(.iconst 1, 1, 1, 0), (.ireturn, 1, 0, 0)]
/-- PointedBenchModel.countyLine(JI)Z -/
def kc_187 : List (Nat × List pb_El) := [(0, kb_187_0), (14, kb_187_14), (28, kb_187_28), (57, kb_187_57), (100, kb_187_100), (102, kb_187_102), (127, kb_187_127), (131, kb_187_131), (150, kb_187_150), (163, kb_187_163), (214, kb_187_214), (238, kb_187_238), (240, kb_187_240), (259, kb_187_259)]
def kb_188_0 : List pb_El := [(.aload_n 0, 1, 0, 0), (.getfield 35, 3, 11, 18), (.iconst 0, 1, 0, 0), (.iaload, 1, 0, 0), (.istore_n 3, 1, 0, 0), (.iload_n 3, 1, 0, 0), (.iload_n 2, 1, 0, 0), (.if_icmp .ne 4, 3, 13, 0), (.return_, 1, 0, 0)]
def kb_188_13 : List pb_El := [(.iconst 0, 1, 0, 0), (.istore 4, 2, 0, 0)]
def kb_188_16 : List pb_El := [(.iload 4, 2, 0, 0), (.iload_n 1, 1, 0, 0), (.if_icmp .ge 29, 3, 48, 0), (.aload_n 0, 1, 0, 0), (.getfield 35, 3, 11, 18), (.iconst 1, 1, 1, 0), (.iload_n 1, 1, 0, 0), (.iload_n 3, 1, 0, 0), (.imul, 1, 0, 0), (.iadd, 1, 0, 0), (.iload 4, 2, 0, 0), (.iadd, 1, 0, 0), (.aload_n 0, 1, 0, 0), (.getfield 38, 3, 11, 19), (.iload 4, 2, 0, 0), (.iaload, 1, 0, 0), (.iastore, 1, 0, 0), (.iinc 4 1, 3, 1, 0), (.goto (-29), 3, 16, 0)]
def kb_188_48 : List pb_El := [(.aload_n 0, 1, 0, 0), (.getfield 35, 3, 11, 18), (.iconst 0, 1, 0, 0), (.dup2, 1, 0, 0), (.iaload, 1, 0, 0), (.iconst 1, 1, 1, 0), (.iadd, 1, 0, 0), (.iastore, 1, 0, 0), (.return_, 1, 0, 0)]
/-- PointedBenchModel.keepRow(II)V -/
def kc_188 : List (Nat × List pb_El) := [(0, kb_188_0), (13, kb_188_13), (16, kb_188_16), (48, kb_188_48)]
def kb_189_0 : List pb_El := [(.lload_n 1, 1, 0, 0), (.ldc2_w 182, 3, 7, 0), (.lcmp, 1, 0, 0), (.ifCond .ne 7, 3, 12, 0), (.iconst 0, 1, 0, 0), (.goto 77, 3, 86, 0)]
def kb_189_12 : List pb_El := [(.lload_n 1, 1, 0, 0), (.ldc2_w 184, 3, 8, 0), (.lcmp, 1, 0, 0), (.ifCond .ne 7, 3, 24, 0), (.iconst 1, 1, 1, 0), (.goto 65, 3, 86, 0)]
def kb_189_24 : List pb_El := [(.lload_n 1, 1, 0, 0), (.ldc2_w 186, 3, 9, 0), (.lcmp, 1, 0, 0), (.ifCond .ne 7, 3, 36, 0), (.iconst 2, 1, 2, 0), (.goto 53, 3, 86, 0)]
def kb_189_36 : List pb_El := [(.lload_n 1, 1, 0, 0), (.ldc2_w 188, 3, 10, 0), (.lcmp, 1, 0, 0), (.ifCond .ne 7, 3, 48, 0), (.iconst 3, 1, 3, 0), (.goto 41, 3, 86, 0)]
def kb_189_48 : List pb_El := [(.lload_n 1, 1, 0, 0), (.ldc2_w 190, 3, 11, 0), (.lcmp, 1, 0, 0), (.ifCond .ne 7, 3, 60, 0), (.iconst 4, 1, 4, 0), (.goto 29, 3, 86, 0)]
def kb_189_60 : List pb_El := [(.lload_n 1, 1, 0, 0), (.ldc2_w 192, 3, 12, 0), (.lcmp, 1, 0, 0), (.ifCond .ne 7, 3, 72, 0), (.iconst 5, 1, 5, 0), (.goto 17, 3, 86, 0)]
def kb_189_72 : List pb_El := [(.lload_n 1, 1, 0, 0), (.ldc2_w 194, 3, 13, 0), (.lcmp, 1, 0, 0), (.ifCond .ne 8, 3, 85, 0), (.bipush 6, 2, 6, 0), (.goto 4, 3, 86, 0)]
def kb_189_85 : List pb_El := [(.iconst (-1), 1, 1, 1)]
def kb_189_86 : List pb_El := [(.ireturn, 1, 0, 0)]
/-- PointedBenchModel.deedBy(J)I -/
def kc_189 : List (Nat × List pb_El) := [(0, kb_189_0), (12, kb_189_12), (24, kb_189_24), (36, kb_189_36), (48, kb_189_48), (60, kb_189_60), (72, kb_189_72), (85, kb_189_85), (86, kb_189_86)]
def kb_190_0 : List pb_El := [(.aload_n 0, 1, 0, 0), (.lload_n 1, 1, 0, 0), (.invokevirtual 196, 3, 189, 2), (.istore 4, 2, 0, 0), (.iload 4, 2, 0, 0), (.iconst (-1), 1, 1, 1), (.if_icmp .ne 8, 3, 18, 0), (.aload_n 0, 1, 0, 0), (.invokevirtual 133, 3, 181, 1), (.ireturn, 1, 0, 0)]
def kb_190_18 : List pb_El := [(.aload_n 0, 1, 0, 0), (.iconst 0, 1, 0, 0), (.bipush 40, 2, 40, 0), (.iload_n 3, 1, 0, 0), (.invokevirtual 148, 3, 184, 4), (.aload_n 0, 1, 0, 0), (.invokevirtual 145, 3, 180, 1), (.aload_n 0, 1, 0, 0), (.getfield 38, 3, 11, 19), (.iconst 1, 1, 1, 0), (.iconst (-1), 1, 1, 1), (.iastore, 1, 0, 0), (.aload_n 0, 1, 0, 0), (.getfield 38, 3, 11, 19), (.iconst 2, 1, 2, 0), (.iconst (-1), 1, 1, 1), (.iastore, 1, 0, 0), (.aload_n 0, 1, 0, 0), (.getfield 38, 3, 11, 19), (.iconst 3, 1, 3, 0), (.iconst (-1), 1, 1, 1), (.iastore, 1, 0, 0), (.iload 4, 2, 0, 0), (.iconst 5, 1, 5, 0), (.if_icmp .ge 13, 3, 67, 0), (.aload_n 0, 1, 0, 0), (.iconst 1, 1, 1, 0), (.iconst 0, 1, 0, 0), (.iconst 5, 1, 5, 0), (.invokevirtual 152, 3, 183, 4), (.ifCond .eq 36, 3, 100, 0)]
def kb_190_67 : List pb_El := [(.iload 4, 2, 0, 0), (.iconst 4, 1, 4, 0), (.if_icmp .ge 13, 3, 83, 0), (.aload_n 0, 1, 0, 0), (.iconst 2, 1, 2, 0), (.iconst 0, 1, 0, 0), (.iconst 5, 1, 5, 0), (.invokevirtual 152, 3, 183, 4), (.ifCond .eq 20, 3, 100, 0)]
def kb_190_83 : List pb_El := [(.iload 4, 2, 0, 0), (.iconst 3, 1, 3, 0), (.if_icmp .ne 16, 3, 102, 0), (.aload_n 0, 1, 0, 0), (.iconst 3, 1, 3, 0), (.iconst 1, 1, 1, 0), (.bipush 9, 2, 9, 0), (.invokevirtual 152, 3, 183, 4), (.ifCond .ne 5, 3, 102, 0)]
def kb_190_100 : List pb_El := [(.iconst 0, 1, 0, 0), (.ireturn, 1, 0, 0)]
def kb_190_102 : List pb_El := [(.aload_n 0, 1, 0, 0), (.getfield 38, 3, 11, 19), (.iconst 0, 1, 0, 0), (.iload 4, 2, 0, 0), (.iastore, 1, 0, 0), (.aload_n 0, 1, 0, 0), (.iconst 4, 1, 4, 0), (.bipush 40, 2, 40, 0), (.invokevirtual 200, 3, 188, 3), (.iconst 1, 1, 1, 0), (.ireturn, 1, 0, 0)]
/-- PointedBenchModel.yearLine(JI)Z -/
def kc_190 : List (Nat × List pb_El) := [(0, kb_190_0), (18, kb_190_18), (67, kb_190_67), (83, kb_190_83), (100, kb_190_100), (102, kb_190_102)]
def kb_191_0 : List pb_El := [(.lload_n 1, 1, 0, 0), (.ldc2_w 203, 3, 14, 0), (.lcmp, 1, 0, 0), (.ifCond .eq 16, 3, 21, 0), (.lload_n 1, 1, 0, 0), (.ldc2_w 205, 3, 15, 0), (.lcmp, 1, 0, 0), (.ifCond .eq 8, 3, 21, 0), (.aload_n 0, 1, 0, 0), (.invokevirtual 133, 3, 181, 1), (.ireturn, 1, 0, 0)]
def kb_191_21 : List pb_El := [(.aload_n 0, 1, 0, 0), (.iconst 0, 1, 0, 0), (.bipush 8, 2, 8, 0), (.iload_n 3, 1, 0, 0), (.invokevirtual 148, 3, 184, 4), (.aload_n 0, 1, 0, 0), (.invokevirtual 145, 3, 180, 1), (.aload_n 0, 1, 0, 0), (.iconst 1, 1, 1, 0), (.iconst 0, 1, 0, 0), (.bipush 63, 2, 63, 0), (.invokevirtual 152, 3, 183, 4), (.ifCond .eq 14, 3, 55, 0), (.aload_n 0, 1, 0, 0), (.iconst 2, 1, 2, 0), (.iconst 0, 1, 0, 0), (.bipush 63, 2, 63, 0), (.invokevirtual 152, 3, 183, 4), (.ifCond .ne 5, 3, 57, 0)]
def kb_191_55 : List pb_El := [(.iconst 0, 1, 0, 0), (.ireturn, 1, 0, 0)]
def kb_191_57 : List pb_El := [(.aload_n 0, 1, 0, 0), (.getfield 38, 3, 11, 19), (.iconst 0, 1, 0, 0), (.lload_n 1, 1, 0, 0), (.ldc2_w 203, 3, 14, 0), (.lcmp, 1, 0, 0), (.ifCond .ne 7, 3, 74, 0), (.iconst 0, 1, 0, 0), (.goto 4, 3, 75, 0)]
def kb_191_74 : List pb_El := [(.iconst 1, 1, 1, 0)]
def kb_191_75 : List pb_El := [(.iastore, 1, 0, 0), (.aload_n 0, 1, 0, 0), (.iconst 3, 1, 3, 0), (.bipush 8, 2, 8, 0), (.invokevirtual 200, 3, 188, 3), (.iconst 1, 1, 1, 0), (.ireturn, 1, 0, 0)]
/-- PointedBenchModel.logLine(JI)Z -/
def kc_191 : List (Nat × List pb_El) := [(0, kb_191_0), (21, kb_191_21), (55, kb_191_55), (57, kb_191_57), (74, kb_191_74), (75, kb_191_75)]
def kb_192_0 : List pb_El := [(.iconst 1, 1, 1, 0), (.istore_n 2, 1, 0, 0)]
def kb_192_2 : List pb_El := [(.iload_n 2, 1, 0, 0), (.ifCond .eq 103, 3, 106, 0), (.aload_n 0, 1, 0, 0), (.getfield 118, 3, 11, 12), (.ifCond .eq 96, 3, 106, 0), (.aload_n 0, 1, 0, 0), (.getfield 111, 3, 11, 11), (.istore_n 3, 1, 0, 0), (.aload_n 0, 1, 0, 0), (.getfield 118, 3, 11, 12), (.iconst 2, 1, 2, 0), (.if_icmp .ne 10, 3, 33, 0), (.aload_n 0, 1, 0, 0), (.getfield 114, 3, 11, 14), (.goto 4, 3, 34, 0)]
def kb_192_33 : List pb_El := [(.lconst 0, 1, 0, 0)]
def kb_192_34 : List pb_El := [(.lstore 4, 2, 0, 0), (.aload_n 0, 1, 0, 0), (.iconst 1, 1, 1, 0), (.putfield 141, 3, 11, 22), (.iload_n 1, 1, 0, 0), (.ifCond .ne 13, 3, 55, 0), (.aload_n 0, 1, 0, 0), (.lload 4, 2, 0, 0), (.iload_n 3, 1, 0, 0), (.invokevirtual 207, 3, 187, 3), (.goto 25, 3, 77, 0)]
def kb_192_55 : List pb_El := [(.iload_n 1, 1, 0, 0), (.iconst 1, 1, 1, 0), (.if_icmp .ne 13, 3, 70, 0), (.aload_n 0, 1, 0, 0), (.lload 4, 2, 0, 0), (.iload_n 3, 1, 0, 0), (.invokevirtual 211, 3, 190, 3), (.goto 10, 3, 77, 0)]
def kb_192_70 : List pb_El := [(.aload_n 0, 1, 0, 0), (.lload 4, 2, 0, 0), (.iload_n 3, 1, 0, 0), (.invokevirtual 214, 3, 191, 3)]
def kb_192_77 : List pb_El := [(.istore_n 2, 1, 0, 0), (.iload_n 2, 1, 0, 0), (.ifCond .eq 16, 3, 95, 0), (.aload_n 0, 1, 0, 0), (.getfield 118, 3, 11, 12), (.iconst 4, 1, 4, 0), (.if_icmp .eq 8, 3, 95, 0), (.aload_n 0, 1, 0, 0), (.invokevirtual 133, 3, 181, 1), (.istore_n 2, 1, 0, 0)]
def kb_192_95 : List pb_El := [(.iload_n 2, 1, 0, 0), (.ifCond .eq 7, 3, 103, 0), (.aload_n 0, 1, 0, 0), (.invokevirtual 145, 3, 180, 1)]
def kb_192_103 : List pb_El := [(.goto (-101), 3, 2, 0)]
def kb_192_106 : List pb_El := [(.iload_n 2, 1, 0, 0), (.ireturn, 1, 0, 0)]
/-- PointedBenchModel.allLines(I)Z -/
def kc_192 : List (Nat × List pb_El) := [(0, kb_192_0), (2, kb_192_2), (33, kb_192_33), (34, kb_192_34), (55, kb_192_55), (70, kb_192_70), (77, kb_192_77), (95, kb_192_95), (103, kb_192_103), (106, kb_192_106)]
def kb_193_0 : List pb_El := [(.iconst 0, 1, 0, 0), (.istore_n 2, 1, 0, 0)]
def kb_193_2 : List pb_El := [(.iload_n 2, 1, 0, 0), (.sipush 161, 3, 161, 0), (.if_icmp .ge 16, 3, 22, 0), (.aload_n 0, 1, 0, 0), (.getfield 35, 3, 11, 18), (.iload_n 2, 1, 0, 0), (.iconst 0, 1, 0, 0), (.iastore, 1, 0, 0), (.iinc 2 1, 3, 1, 0), (.goto (-17), 3, 2, 0)]
def kb_193_22 : List pb_El := [(.aload_n 0, 1, 0, 0), (.iconst (-1), 1, 1, 1), (.putfield 172, 3, 11, 20), (.aload_n 0, 1, 0, 0), (.iconst (-1), 1, 1, 1), (.putfield 179, 3, 11, 21), (.aload_n 0, 1, 0, 0), (.iconst 0, 1, 0, 0), (.putfield 101, 3, 11, 9), (.aload_n 0, 1, 0, 0), (.iconst 0, 1, 0, 0), (.putfield 127, 3, 11, 16), (.aload_n 0, 1, 0, 0), (.invokevirtual 145, 3, 180, 1), (.aload_n 0, 1, 0, 0), (.iload_n 1, 1, 0, 0), (.invokevirtual 217, 3, 192, 2), (.istore_n 2, 1, 0, 0), (.iload_n 2, 1, 0, 0), (.ifCond .eq 49, 3, 102, 0), (.iload_n 1, 1, 0, 0), (.ifCond .ne 45, 3, 102, 0), (.aload_n 0, 1, 0, 0), (.getfield 127, 3, 11, 16), (.ifCond .ne 38, 3, 102, 0), (.aload_n 0, 1, 0, 0), (.getfield 172, 3, 11, 20), (.aload_n 0, 1, 0, 0), (.getfield 35, 3, 11, 18), (.iconst 0, 1, 0, 0), (.iaload, 1, 0, 0), (.if_icmp .ge 16, 3, 93, 0), (.aload_n 0, 1, 0, 0), (.getfield 179, 3, 11, 21), (.aload_n 0, 1, 0, 0), (.getfield 35, 3, 11, 18), (.iconst 1, 1, 1, 0), (.iaload, 1, 0, 0), (.if_icmp .lt 12, 3, 102, 0)]
def kb_193_93 : List pb_El := [(.aload_n 0, 1, 0, 0), (.iconst 4, 1, 4, 0), (.aload_n 0, 1, 0, 0), (.getfield 111, 3, 11, 11), (.invokevirtual 137, 3, 182, 3)]
def kb_193_102 : List pb_El := [(.aload_n 0, 1, 0, 0), (.getfield 17, 3, 11, 3), (.iconst 0, 1, 0, 0), (.iload_n 2, 1, 0, 0), (.ifCond .eq 10, 3, 118, 0), (.aload_n 0, 1, 0, 0), (.getfield 127, 3, 11, 16), (.goto 4, 3, 119, 0)]
def kb_193_118 : List pb_El := [(.iconst 1, 1, 1, 0)]
def kb_193_119 : List pb_El := [(.iastore, 1, 0, 0), (.aload_n 0, 1, 0, 0), (.getfield 20, 3, 11, 4), (.iconst 0, 1, 0, 0), (.iload_n 2, 1, 0, 0), (.ifCond .ne 10, 3, 136, 0), (.aload_n 0, 1, 0, 0), (.getfield 124, 3, 11, 15), (.goto 18, 3, 151, 0)]
def kb_193_136 : List pb_El := [(.aload_n 0, 1, 0, 0), (.getfield 127, 3, 11, 16), (.ifCond .le 10, 3, 150, 0), (.aload_n 0, 1, 0, 0), (.getfield 130, 3, 11, 17), (.goto 4, 3, 151, 0)]
def kb_193_150 : List pb_El := [(.iconst (-1), 1, 1, 1)]
def kb_193_151 : List pb_El := [(.iastore, 1, 0, 0), (.aload_n 0, 1, 0, 0), (.getfield 17, 3, 11, 3), (.iconst 0, 1, 0, 0), (.iaload, 1, 0, 0), (.ifCond .ne 7, 3, 165, 0), (.iconst 1, 1, 1, 0), (.goto 4, 3, 166, 0)]
def kb_193_165 : List pb_El := [(.iconst 0, 1, 0, 0)]
def kb_193_166 : List pb_El := [(.ireturn, 1, 0, 0)]
/-- PointedBenchModel.readText(I)Z -/
def kc_193 : List (Nat × List pb_El) := [(0, kb_193_0), (2, kb_193_2), (22, kb_193_22), (93, kb_193_93), (102, kb_193_102), (118, kb_193_118), (119, kb_193_119), (136, kb_193_136), (150, kb_193_150), (151, kb_193_151), (165, kb_193_165), (166, kb_193_166)]
def kb_194_0 : List pb_El := [(.iconst 0, 1, 0, 0), (.istore 4, 2, 0, 0)]
def kb_194_3 : List pb_El := [(.iload 4, 2, 0, 0), (.iload_n 2, 1, 0, 0), (.if_icmp .ge 24, 3, 30, 0), (.aload_n 1, 1, 0, 0), (.iload_n 2, 1, 0, 0), (.iload_n 3, 1, 0, 0), (.imul, 1, 0, 0), (.iload 4, 2, 0, 0), (.iadd, 1, 0, 0), (.aload_n 0, 1, 0, 0), (.getfield 35, 3, 11, 18), (.iload 4, 2, 0, 0), (.iaload, 1, 0, 0), (.iastore, 1, 0, 0), (.iinc 4 1, 3, 1, 0), (.goto (-24), 3, 3, 0)]
def kb_194_30 : List pb_El := [(.return_, 1, 0, 0)]
/-- PointedBenchModel.store([III)V -/
def kc_194 : List (Nat × List pb_El) := [(0, kb_194_0), (3, kb_194_3), (30, kb_194_30)]
def kb_195_0 : List pb_El := [(.aload_n 0, 1, 0, 0), (.iconst 0, 1, 0, 0), (.putfield 81, 3, 11, 0), (.aload_n 0, 1, 0, 0), (.aload_n 0, 1, 0, 0), (.getfield 13, 3, 11, 2), (.iconst 0, 1, 0, 0), (.iaload, 1, 0, 0), (.putfield 104, 3, 11, 10), (.aload_n 0, 1, 0, 0), (.getfield 13, 3, 11, 2), (.iconst 0, 1, 0, 0), (.iconst 0, 1, 0, 0), (.iastore, 1, 0, 0), (.aload_n 0, 1, 0, 0), (.getfield 17, 3, 11, 3), (.iconst 0, 1, 0, 0), (.iconst 0, 1, 0, 0), (.iastore, 1, 0, 0), (.aload_n 0, 1, 0, 0), (.getfield 20, 3, 11, 4), (.iconst 0, 1, 0, 0), (.iconst (-1), 1, 1, 1), (.iastore, 1, 0, 0), (.iload_n 1, 1, 0, 0), (.iconst 0, 1, 0, 0), (.iconst 2, 1, 2, 0), (.invokestatic 93, 3, 168, 3), (.ifCond .eq 30, 3, 72, 0), (.iload_n 2, 1, 0, 0), (.iconst (-1), 1, 1, 1), (.if_icmp .ne 16, 3, 63, 0), (.aload_n 0, 1, 0, 0), (.getfield 23, 3, 11, 5), (.iload_n 1, 1, 0, 0), (.iaload, 1, 0, 0), (.iconst 2, 1, 2, 0), (.if_icmp .ne 18, 3, 75, 0), (.goto 12, 3, 72, 0)]
def kb_195_63 : List pb_El := [(.aload_n 0, 1, 0, 0), (.iload_n 1, 1, 0, 0), (.iload_n 2, 1, 0, 0), (.invokevirtual 220, 3, 175, 3), (.ifCond .ne 6, 3, 75, 0)]
def kb_195_72 : List pb_El := [(.bipush (-2), 2, 2, 1), (.ireturn, 1, 0, 0)]
def kb_195_75 : List pb_El := [(.aload_n 0, 1, 0, 0), (.iload_n 1, 1, 0, 0), (.invokevirtual 223, 3, 193, 2), (.ifCond .ne 5, 3, 85, 0), (.iconst (-1), 1, 1, 1), (.ireturn, 1, 0, 0)]
def kb_195_85 : List pb_El := [(.iload_n 2, 1, 0, 0), (.iconst (-1), 1, 1, 1), (.if_icmp .ne 12, 3, 99, 0), (.aload_n 0, 1, 0, 0), (.getfield 23, 3, 11, 5), (.iload_n 1, 1, 0, 0), (.iaload, 1, 0, 0), (.goto 4, 3, 100, 0)]
def kb_195_99 : List pb_El := [(.iload_n 2, 1, 0, 0)]
def kb_195_100 : List pb_El := [(.istore_n 3, 1, 0, 0), (.aload_n 0, 1, 0, 0), (.getfield 23, 3, 11, 5), (.iload_n 1, 1, 0, 0), (.dup2, 1, 0, 0), (.iaload, 1, 0, 0), (.iload_n 2, 1, 0, 0), (.iconst (-1), 1, 1, 1), (.if_icmp .ne 7, 3, 117, 0), (.iconst 1, 1, 1, 0), (.goto 4, 3, 118, 0)]
def kb_195_117 : List pb_El := [(.iconst 0, 1, 0, 0)]
def kb_195_118 : List pb_El := [(.iadd, 1, 0, 0), (.iastore, 1, 0, 0), (.iload_n 1, 1, 0, 0), (.ifCond .ne 17, 3, 138, 0), (.aload_n 0, 1, 0, 0), (.aload_n 0, 1, 0, 0), (.getfield 26, 3, 11, 6), (.bipush 68, 2, 68, 0), (.iload_n 3, 1, 0, 0), (.invokevirtual 226, 3, 194, 4), (.goto 34, 3, 169, 0)]
def kb_195_138 : List pb_El := [(.iload_n 1, 1, 0, 0), (.iconst 1, 1, 1, 0), (.if_icmp .ne 18, 3, 158, 0), (.aload_n 0, 1, 0, 0), (.aload_n 0, 1, 0, 0), (.getfield 29, 3, 11, 7), (.sipush 161, 3, 161, 0), (.iload_n 3, 1, 0, 0), (.invokevirtual 226, 3, 194, 4), (.goto 14, 3, 169, 0)]
def kb_195_158 : List pb_El := [(.aload_n 0, 1, 0, 0), (.aload_n 0, 1, 0, 0), (.getfield 32, 3, 11, 8), (.bipush 25, 2, 25, 0), (.iload_n 3, 1, 0, 0), (.invokevirtual 226, 3, 194, 4)]
def kb_195_169 : List pb_El := [(.iload_n 3, 1, 0, 0), (.ireturn, 1, 0, 0)]
/-- PointedBenchModel.text(II)I -/
def kc_195 : List (Nat × List pb_El) := [(0, kb_195_0), (63, kb_195_63), (72, kb_195_72), (75, kb_195_75), (85, kb_195_85), (99, kb_195_99), (100, kb_195_100), (117, kb_195_117), (118, kb_195_118), (138, kb_195_138), (158, kb_195_158), (169, kb_195_169)]
def kb_196_0 : List pb_El := [(.aload_n 0, 1, 0, 0), (.iconst 0, 1, 0, 0), (.putfield 81, 3, 11, 0), (.iload_n 1, 1, 0, 0), (.ifCond .ne 12, 3, 18, 0), (.aload_n 0, 1, 0, 0), (.getfield 17, 3, 11, 3), (.iconst 0, 1, 0, 0), (.iaload, 1, 0, 0), (.goto 18, 3, 33, 0)]
def kb_196_18 : List pb_El := [(.iload_n 1, 1, 0, 0), (.iconst 1, 1, 1, 0), (.if_icmp .ne 12, 3, 32, 0), (.aload_n 0, 1, 0, 0), (.getfield 20, 3, 11, 4), (.iconst 0, 1, 0, 0), (.iaload, 1, 0, 0), (.goto 4, 3, 33, 0)]
def kb_196_32 : List pb_El := [(.iconst (-1), 1, 1, 1)]
def kb_196_33 : List pb_El := [(.ireturn, 1, 0, 0)]
/-- PointedBenchModel.fault(I)I -/
def kc_196 : List (Nat × List pb_El) := [(0, kb_196_0), (18, kb_196_18), (32, kb_196_32), (33, kb_196_33)]
def kb_197_0 : List pb_El := [(.aload_n 0, 1, 0, 0), (.getfield 26, 3, 11, 6), (.bipush 68, 2, 68, 0), (.aload_n 0, 1, 0, 0), (.getfield 230, 3, 11, 23), (.imul, 1, 0, 0), (.iload_n 1, 1, 0, 0), (.iadd, 1, 0, 0), (.iaload, 1, 0, 0), (.ireturn, 1, 0, 0)]
/-- PointedBenchModel.of(I)I -/
def kc_197 : List (Nat × List pb_El) := [(0, kb_197_0)]
def kb_198_0 : List pb_El := [(.aload_n 0, 1, 0, 0), (.iconst 0, 1, 0, 0), (.iload_n 1, 1, 0, 0), (.invokevirtual 220, 3, 175, 3), (.ifCond .ne 5, 3, 11, 0), (.iconst 0, 1, 0, 0), (.ireturn, 1, 0, 0)]
def kb_198_11 : List pb_El := [(.aload_n 0, 1, 0, 0), (.iload_n 1, 1, 0, 0), (.putfield 230, 3, 11, 23), (.aload_n 0, 1, 0, 0), (.aload_n 0, 1, 0, 0), (.iconst 0, 1, 0, 0), (.invokevirtual 233, 3, 197, 2), (.putfield 237, 3, 11, 24), (.aload_n 0, 1, 0, 0), (.aload_n 0, 1, 0, 0), (.iconst 1, 1, 1, 0), (.invokevirtual 233, 3, 197, 2), (.putfield 240, 3, 11, 25), (.aload_n 0, 1, 0, 0), (.iconst 0, 1, 0, 0), (.putfield 243, 3, 11, 26), (.aload_n 0, 1, 0, 0), (.bipush 6, 2, 6, 0), (.putfield 246, 3, 11, 27), (.aload_n 0, 1, 0, 0), (.iconst 0, 1, 0, 0), (.putfield 249, 3, 11, 28), (.aload_n 0, 1, 0, 0), (.iconst 0, 1, 0, 0), (.putfield 252, 3, 11, 29), (.aload_n 0, 1, 0, 0), (.invokevirtual 255, 3, 199, 1), (.iconst 1, 1, 1, 0), (.ireturn, 1, 0, 0)]
/-- PointedBenchModel.hand(I)Z -/
def kc_198 : List (Nat × List pb_El) := [(0, kb_198_0), (11, kb_198_11)]
def kb_199_0 : List pb_El := [(.iconst 0, 1, 0, 0), (.istore_n 1, 1, 0, 0)]
def kb_199_2 : List pb_El := [(.iload_n 1, 1, 0, 0), (.bipush 6, 2, 6, 0), (.if_icmp .ge 65, 3, 70, 0), (.aload_n 0, 1, 0, 0), (.getfield 41, 3, 11, 30), (.iload_n 1, 1, 0, 0), (.aload_n 0, 1, 0, 0), (.bipush 8, 2, 8, 0), (.iload_n 1, 1, 0, 0), (.iadd, 1, 0, 0), (.invokevirtual 233, 3, 197, 2), (.iastore, 1, 0, 0), (.aload_n 0, 1, 0, 0), (.getfield 44, 3, 11, 31), (.iload_n 1, 1, 0, 0), (.aload_n 0, 1, 0, 0), (.bipush 14, 2, 14, 0), (.iload_n 1, 1, 0, 0), (.iadd, 1, 0, 0), (.invokevirtual 233, 3, 197, 2), (.iastore, 1, 0, 0), (.aload_n 0, 1, 0, 0), (.getfield 47, 3, 11, 32), (.iload_n 1, 1, 0, 0), (.aload_n 0, 1, 0, 0), (.bipush 20, 2, 20, 0), (.iload_n 1, 1, 0, 0), (.iadd, 1, 0, 0), (.invokevirtual 233, 3, 197, 2), (.iastore, 1, 0, 0), (.aload_n 0, 1, 0, 0), (.getfield 50, 3, 11, 33), (.iload_n 1, 1, 0, 0), (.aload_n 0, 1, 0, 0), (.bipush 26, 2, 26, 0), (.iload_n 1, 1, 0, 0), (.iadd, 1, 0, 0), (.invokevirtual 233, 3, 197, 2), (.iastore, 1, 0, 0), (.iinc 1 1, 3, 1, 0), (.goto (-65), 3, 2, 0)]
def kb_199_70 : List pb_El := [(.iconst 0, 1, 0, 0), (.istore_n 1, 1, 0, 0)]
def kb_199_72 : List pb_El := [(.iload_n 1, 1, 0, 0), (.bipush 36, 2, 36, 0), (.if_icmp .ge 23, 3, 98, 0), (.aload_n 0, 1, 0, 0), (.getfield 53, 3, 11, 34), (.iload_n 1, 1, 0, 0), (.aload_n 0, 1, 0, 0), (.bipush 32, 2, 32, 0), (.iload_n 1, 1, 0, 0), (.iadd, 1, 0, 0), (.invokevirtual 233, 3, 197, 2), (.iastore, 1, 0, 0), (.iinc 1 1, 3, 1, 0), (.goto (-23), 3, 72, 0)]
def kb_199_98 : List pb_El := [(.return_, 1, 0, 0)]
/-- PointedBenchModel.asTold()V -/
def kc_199 : List (Nat × List pb_El) := [(0, kb_199_0), (2, kb_199_2), (70, kb_199_70), (72, kb_199_72), (98, kb_199_98)]
def kb_200_0 : List pb_El := [(.iload_n 1, 1, 0, 0), (.iconst 0, 1, 0, 0), (.aload_n 0, 1, 0, 0), (.getfield 237, 3, 11, 24), (.iconst 1, 1, 1, 0), (.isub, 1, 0, 0), (.invokestatic 93, 3, 168, 3), (.ireturn, 1, 0, 0)]
/-- PointedBenchModel.isMan(I)Z -/
def kc_200 : List (Nat × List pb_El) := [(0, kb_200_0)]
def kb_201_0 : List pb_El := [(.iload_n 1, 1, 0, 0), (.iconst 0, 1, 0, 0), (.aload_n 0, 1, 0, 0), (.getfield 240, 3, 11, 25), (.iconst 1, 1, 1, 0), (.isub, 1, 0, 0), (.invokestatic 93, 3, 168, 3), (.ireturn, 1, 0, 0)]
/-- PointedBenchModel.isChild(I)Z -/
def kc_201 : List (Nat × List pb_El) := [(0, kb_201_0)]
def kb_202_0 : List pb_El := [(.aload_n 0, 1, 0, 0), (.getfield 44, 3, 11, 31), (.iload_n 1, 1, 0, 0), (.iaload, 1, 0, 0), (.bipush 12, 2, 12, 0), (.if_icmp .gt 16, 3, 24, 0), (.aload_n 0, 1, 0, 0), (.getfield 47, 3, 11, 32), (.iload_n 1, 1, 0, 0), (.iaload, 1, 0, 0), (.ifCond .le 7, 3, 24, 0), (.iconst 1, 1, 1, 0), (.goto 4, 3, 25, 0)]
def kb_202_24 : List pb_El := [(.iconst 0, 1, 0, 0)]
def kb_202_25 : List pb_El := [(.ireturn, 1, 0, 0)]
/-- PointedBenchModel.votes(I)Z -/
def kc_202 : List (Nat × List pb_El) := [(0, kb_202_0), (24, kb_202_24), (25, kb_202_25)]
def kb_203_0 : List pb_El := [(.iconst 0, 1, 0, 0), (.istore_n 1, 1, 0, 0), (.iconst 0, 1, 0, 0), (.istore_n 2, 1, 0, 0)]
def kb_203_4 : List pb_El := [(.iload_n 2, 1, 0, 0), (.aload_n 0, 1, 0, 0), (.getfield 240, 3, 11, 25), (.if_icmp .ge 27, 3, 36, 0), (.iload_n 1, 1, 0, 0), (.aload_n 0, 1, 0, 0), (.iload_n 2, 1, 0, 0), (.invokevirtual 258, 3, 202, 2), (.ifCond .eq 9, 3, 27, 0), (.iconst 1, 1, 1, 0), (.iload_n 2, 1, 0, 0), (.ishl, 1, 0, 0), (.goto 4, 3, 28, 0)]
def kb_203_27 : List pb_El := [(.iconst 0, 1, 0, 0)]
def kb_203_28 : List pb_El := [(.ior, 1, 0, 0), (.istore_n 1, 1, 0, 0), (.iinc 2 1, 3, 1, 0), (.goto (-29), 3, 4, 0)]
def kb_203_36 : List pb_El := [(.iload_n 1, 1, 0, 0), (.ireturn, 1, 0, 0)]
/-- PointedBenchModel.voters()I -/
def kc_203 : List (Nat × List pb_El) := [(0, kb_203_0), (4, kb_203_4), (27, kb_203_27), (28, kb_203_28), (36, kb_203_36)]
def kb_204_0 : List pb_El := [(.iconst 0, 1, 0, 0), (.istore_n 3, 1, 0, 0), (.iconst 0, 1, 0, 0), (.istore 4, 2, 0, 0)]
def kb_204_5 : List pb_El := [(.iload 4, 2, 0, 0), (.bipush 6, 2, 6, 0), (.if_icmp .ge 37, 3, 46, 0), (.iload_n 3, 1, 0, 0), (.iload_n 2, 1, 0, 0), (.iload 4, 2, 0, 0), (.invokestatic 85, 3, 169, 2), (.ifCond .eq 18, 3, 37, 0), (.aload_n 0, 1, 0, 0), (.getfield 53, 3, 11, 34), (.bipush 6, 2, 6, 0), (.iload_n 1, 1, 0, 0), (.imul, 1, 0, 0), (.iload 4, 2, 0, 0), (.iadd, 1, 0, 0), (.iaload, 1, 0, 0), (.goto 4, 3, 38, 0)]
def kb_204_37 : List pb_El := [(.iconst 0, 1, 0, 0)]
def kb_204_38 : List pb_El := [(.iadd, 1, 0, 0), (.istore_n 3, 1, 0, 0), (.iinc 4 1, 3, 1, 0), (.goto (-38), 3, 5, 0)]
def kb_204_46 : List pb_El := [(.iload_n 3, 1, 0, 0), (.ireturn, 1, 0, 0)]
/-- PointedBenchModel.likesOf(II)I -/
def kc_204 : List (Nat × List pb_El) := [(0, kb_204_0), (5, kb_204_5), (37, kb_204_37), (38, kb_204_38), (46, kb_204_46)]
def kb_205_0 : List pb_El := [(.aload_n 0, 1, 0, 0), (.getfield 41, 3, 11, 30), (.iload_n 2, 1, 0, 0), (.iaload, 1, 0, 0), (.aload_n 0, 1, 0, 0), (.getfield 50, 3, 11, 33), (.iload_n 1, 1, 0, 0), (.iaload, 1, 0, 0), (.iand, 1, 0, 0), (.ifCond .eq 7, 3, 20, 0), (.iconst 1, 1, 1, 0), (.goto 4, 3, 21, 0)]
def kb_205_20 : List pb_El := [(.iconst 0, 1, 0, 0)]
def kb_205_21 : List pb_El := [(.ireturn, 1, 0, 0)]
/-- PointedBenchModel.dreads(II)Z -/
def kc_205 : List (Nat × List pb_El) := [(0, kb_205_0), (20, kb_205_20), (21, kb_205_21)]
def kb_206_0 : List pb_El := [(.bipush 6, 2, 6, 0), (.istore_n 3, 1, 0, 0), (.iconst 0, 1, 0, 0), (.istore 4, 2, 0, 0)]
def kb_206_6 : List pb_El := [(.iload 4, 2, 0, 0), (.aload_n 0, 1, 0, 0), (.getfield 237, 3, 11, 24), (.if_icmp .ge 79, 3, 91, 0), (.iload_n 3, 1, 0, 0), (.bipush 6, 2, 6, 0), (.if_icmp .eq 29, 3, 47, 0), (.aload_n 0, 1, 0, 0), (.iload_n 1, 1, 0, 0), (.aload_n 0, 1, 0, 0), (.getfield 41, 3, 11, 30), (.iload 4, 2, 0, 0), (.iaload, 1, 0, 0), (.invokevirtual 261, 3, 204, 3), (.aload_n 0, 1, 0, 0), (.iload_n 1, 1, 0, 0), (.aload_n 0, 1, 0, 0), (.getfield 41, 3, 11, 30), (.iload_n 3, 1, 0, 0), (.iaload, 1, 0, 0), (.invokevirtual 261, 3, 204, 3), (.if_icmp .le 7, 3, 51, 0)]
def kb_206_47 : List pb_El := [(.iconst 1, 1, 1, 0), (.goto 4, 3, 52, 0)]
def kb_206_51 : List pb_El := [(.iconst 0, 1, 0, 0)]
def kb_206_52 : List pb_El := [(.istore 5, 2, 0, 0), (.iload_n 2, 1, 0, 0), (.iload 4, 2, 0, 0), (.invokestatic 85, 3, 169, 2), (.ifCond .eq 23, 3, 83, 0), (.aload_n 0, 1, 0, 0), (.iload_n 1, 1, 0, 0), (.iload 4, 2, 0, 0), (.invokevirtual 264, 3, 205, 3), (.ifCond .ne 13, 3, 83, 0), (.iload 5, 2, 0, 0), (.ifCond .eq 8, 3, 83, 0), (.iload 4, 2, 0, 0), (.goto 4, 3, 84, 0)]
def kb_206_83 : List pb_El := [(.iload_n 3, 1, 0, 0)]
def kb_206_84 : List pb_El := [(.istore_n 3, 1, 0, 0), (.iinc 4 1, 3, 1, 0), (.goto (-82), 3, 6, 0)]
def kb_206_91 : List pb_El := [(.iload_n 3, 1, 0, 0), (.ireturn, 1, 0, 0)]
/-- PointedBenchModel.pointsOf(II)I -/
def kc_206 : List (Nat × List pb_El) := [(0, kb_206_0), (6, kb_206_6), (47, kb_206_47), (51, kb_206_51), (52, kb_206_52), (83, kb_206_83), (84, kb_206_84), (91, kb_206_91)]
def kb_207_0 : List pb_El := [(.aload_n 0, 1, 0, 0), (.iload_n 1, 1, 0, 0), (.bipush 63, 2, 63, 0), (.invokevirtual 267, 3, 206, 3), (.ireturn, 1, 0, 0)]
/-- PointedBenchModel.points(I)I -/
def kc_207 : List (Nat × List pb_El) := [(0, kb_207_0)]
def kb_208_0 : List pb_El := [(.iconst 0, 1, 0, 0), (.istore_n 1, 1, 0, 0)]
def kb_208_2 : List pb_El := [(.iload_n 1, 1, 0, 0), (.bipush 6, 2, 6, 0), (.if_icmp .ge 33, 3, 38, 0), (.aload_n 0, 1, 0, 0), (.getfield 56, 3, 11, 35), (.iload_n 1, 1, 0, 0), (.iload_n 1, 1, 0, 0), (.aload_n 0, 1, 0, 0), (.getfield 240, 3, 11, 25), (.if_icmp .ge 11, 3, 29, 0), (.aload_n 0, 1, 0, 0), (.iload_n 1, 1, 0, 0), (.invokevirtual 270, 3, 207, 2), (.goto 5, 3, 31, 0)]
def kb_208_29 : List pb_El := [(.bipush 6, 2, 6, 0)]
def kb_208_31 : List pb_El := [(.iastore, 1, 0, 0), (.iinc 1 1, 3, 1, 0), (.goto (-33), 3, 2, 0)]
def kb_208_38 : List pb_El := [(.return_, 1, 0, 0)]
/-- PointedBenchModel.layPoints()V -/
def kc_208 : List (Nat × List pb_El) := [(0, kb_208_0), (2, kb_208_2), (29, kb_208_29), (31, kb_208_31), (38, kb_208_38)]
def kb_209_0 : List pb_El := [(.bipush 6, 2, 6, 0), (.istore_n 2, 1, 0, 0), (.iconst 0, 1, 0, 0), (.istore_n 3, 1, 0, 0), (.iconst 0, 1, 0, 0), (.istore 4, 2, 0, 0)]
def kb_209_8 : List pb_El := [(.iload 4, 2, 0, 0), (.aload_n 0, 1, 0, 0), (.getfield 237, 3, 11, 24), (.if_icmp .ge 90, 3, 104, 0), (.iconst 0, 1, 0, 0), (.istore 5, 2, 0, 0), (.iconst 0, 1, 0, 0), (.istore 6, 2, 0, 0)]
def kb_209_23 : List pb_El := [(.iload 6, 2, 0, 0), (.aload_n 0, 1, 0, 0), (.getfield 240, 3, 11, 25), (.if_icmp .ge 49, 3, 78, 0), (.iload 5, 2, 0, 0), (.iload_n 1, 1, 0, 0), (.iload 6, 2, 0, 0), (.invokestatic 85, 3, 169, 2), (.ifCond .eq 28, 3, 68, 0), (.aload_n 0, 1, 0, 0), (.iload 6, 2, 0, 0), (.invokevirtual 258, 3, 202, 2), (.ifCond .eq 19, 3, 68, 0), (.aload_n 0, 1, 0, 0), (.getfield 56, 3, 11, 35), (.iload 6, 2, 0, 0), (.iaload, 1, 0, 0), (.iload 4, 2, 0, 0), (.if_icmp .ne 7, 3, 68, 0), (.iconst 1, 1, 1, 0), (.goto 4, 3, 69, 0)]
def kb_209_68 : List pb_El := [(.iconst 0, 1, 0, 0)]
def kb_209_69 : List pb_El := [(.iadd, 1, 0, 0), (.istore 5, 2, 0, 0), (.iinc 6 1, 3, 1, 0), (.goto (-52), 3, 23, 0)]
def kb_209_78 : List pb_El := [(.iload 5, 2, 0, 0), (.iload_n 3, 1, 0, 0), (.if_icmp .le 8, 3, 89, 0), (.iload 4, 2, 0, 0), (.goto 4, 3, 90, 0)]
def kb_209_89 : List pb_El := [(.iload_n 2, 1, 0, 0)]
def kb_209_90 : List pb_El := [(.istore_n 2, 1, 0, 0), (.iload_n 3, 1, 0, 0), (.iload 5, 2, 0, 0), (.invokestatic 175, 3, 170, 2), (.istore_n 3, 1, 0, 0), (.iinc 4 1, 3, 1, 0), (.goto (-93), 3, 8, 0)]
def kb_209_104 : List pb_El := [(.iload_n 2, 1, 0, 0), (.ireturn, 1, 0, 0)]
/-- PointedBenchModel.pickOf(I)I -/
def kc_209 : List (Nat × List pb_El) := [(0, kb_209_0), (8, kb_209_8), (23, kb_209_23), (68, kb_209_68), (69, kb_209_69), (78, kb_209_78), (89, kb_209_89), (90, kb_209_90), (104, kb_209_104)]
def kb_210_0 : List pb_El := [(.aload_n 0, 1, 0, 0), (.invokevirtual 273, 3, 208, 1), (.aload_n 0, 1, 0, 0), (.bipush 63, 2, 63, 0), (.invokevirtual 276, 3, 209, 2), (.ireturn, 1, 0, 0)]
/-- PointedBenchModel.pickNow()I -/
def kc_210 : List (Nat × List pb_El) := [(0, kb_210_0)]
def kb_211_0 : List pb_El := [(.aload_n 0, 1, 0, 0), (.iconst 0, 1, 0, 0), (.putfield 81, 3, 11, 0), (.aload_n 0, 1, 0, 0), (.iload_n 1, 1, 0, 0), (.invokevirtual 279, 3, 198, 2), (.ifCond .ne 5, 3, 15, 0), (.iconst (-1), 1, 1, 1), (.ireturn, 1, 0, 0)]
def kb_211_15 : List pb_El := [(.iload_n 2, 1, 0, 0), (.bipush 10, 2, 10, 0), (.irem, 1, 0, 0), (.istore_n 3, 1, 0, 0), (.iload_n 2, 1, 0, 0), (.bipush 100, 2, 100, 0), (.if_icmp .lt 52, 3, 75, 0), (.iload_n 2, 1, 0, 0), (.sipush 160, 3, 160, 0), (.if_icmp .ge 43, 3, 73, 0), (.aload_n 0, 1, 0, 0), (.iload_n 2, 1, 0, 0), (.bipush 100, 2, 100, 0), (.isub, 1, 0, 0), (.bipush 10, 2, 10, 0), (.idiv, 1, 0, 0), (.invokevirtual 282, 3, 201, 2), (.ifCond .eq 29, 3, 73, 0), (.iload_n 3, 1, 0, 0), (.bipush 6, 2, 6, 0), (.if_icmp .ge 23, 3, 73, 0), (.aload_n 0, 1, 0, 0), (.getfield 53, 3, 11, 34), (.bipush 6, 2, 6, 0), (.iload_n 2, 1, 0, 0), (.bipush 100, 2, 100, 0), (.isub, 1, 0, 0), (.bipush 10, 2, 10, 0), (.idiv, 1, 0, 0), (.imul, 1, 0, 0), (.iload_n 3, 1, 0, 0), (.iadd, 1, 0, 0), (.iaload, 1, 0, 0), (.goto 4, 3, 74, 0)]
def kb_211_73 : List pb_El := [(.iconst (-1), 1, 1, 1)]
def kb_211_74 : List pb_El := [(.ireturn, 1, 0, 0)]
def kb_211_75 : List pb_El := [(.iload_n 2, 1, 0, 0), (.bipush 10, 2, 10, 0), (.idiv, 1, 0, 0), (.tableswitch 117 0 5 #[37, 56, 56, 86, 86, 86], 37, 0, 0)]
def kb_211_116 : List pb_El := [(.iload_n 2, 1, 0, 0), (.iconst 0, 1, 0, 0), (.iconst 1, 1, 1, 0), (.invokestatic 93, 3, 168, 3), (.ifCond .eq 11, 3, 133, 0), (.aload_n 0, 1, 0, 0), (.iload_n 2, 1, 0, 0), (.invokevirtual 233, 3, 197, 2), (.goto 4, 3, 134, 0)]
def kb_211_133 : List pb_El := [(.iconst (-1), 1, 1, 1)]
def kb_211_134 : List pb_El := [(.ireturn, 1, 0, 0)]
def kb_211_135 : List pb_El := [(.iload_n 3, 1, 0, 0), (.aload_n 0, 1, 0, 0), (.getfield 237, 3, 11, 24), (.if_icmp .ge 23, 3, 163, 0), (.aload_n 0, 1, 0, 0), (.iconst 2, 1, 2, 0), (.bipush 6, 2, 6, 0), (.iload_n 2, 1, 0, 0), (.bipush 10, 2, 10, 0), (.idiv, 1, 0, 0), (.iconst 1, 1, 1, 0), (.isub, 1, 0, 0), (.imul, 1, 0, 0), (.iadd, 1, 0, 0), (.iload_n 3, 1, 0, 0), (.iadd, 1, 0, 0), (.invokevirtual 233, 3, 197, 2), (.goto 4, 3, 164, 0)]
def kb_211_163 : List pb_El := [(.iconst (-1), 1, 1, 1)]
def kb_211_164 : List pb_El := [(.ireturn, 1, 0, 0)]
def kb_211_165 : List pb_El := [(.iload_n 3, 1, 0, 0), (.aload_n 0, 1, 0, 0), (.getfield 240, 3, 11, 25), (.if_icmp .ge 24, 3, 194, 0), (.aload_n 0, 1, 0, 0), (.bipush 14, 2, 14, 0), (.bipush 6, 2, 6, 0), (.iload_n 2, 1, 0, 0), (.bipush 10, 2, 10, 0), (.idiv, 1, 0, 0), (.iconst 3, 1, 3, 0), (.isub, 1, 0, 0), (.imul, 1, 0, 0), (.iadd, 1, 0, 0), (.iload_n 3, 1, 0, 0), (.iadd, 1, 0, 0), (.invokevirtual 233, 3, 197, 2), (.goto 4, 3, 195, 0)]
def kb_211_194 : List pb_El := [(.iconst (-1), 1, 1, 1)]
def kb_211_195 : List pb_El := [(.ireturn, 1, 0, 0)]
def kb_211_196 : List pb_El := [(.iconst (-1), 1, 1, 1), (.ireturn, 1, 0, 0)]
/-- PointedBenchModel.county(II)I -/
def kc_211 : List (Nat × List pb_El) := [(0, kb_211_0), (15, kb_211_15), (73, kb_211_73), (74, kb_211_74), (75, kb_211_75), (116, kb_211_116), (133, kb_211_133), (134, kb_211_134), (135, kb_211_135), (163, kb_211_163), (164, kb_211_164), (165, kb_211_165), (194, kb_211_194), (195, kb_211_195), (196, kb_211_196)]
def kb_212_0 : List pb_El := [(.aload_n 0, 1, 0, 0), (.getfield 29, 3, 11, 7), (.sipush 161, 3, 161, 0), (.aload_n 0, 1, 0, 0), (.getfield 285, 3, 11, 36), (.imul, 1, 0, 0), (.iaload, 1, 0, 0), (.ireturn, 1, 0, 0)]
/-- PointedBenchModel.deeds()I -/
def kc_212 : List (Nat × List pb_El) := [(0, kb_212_0)]
def kb_213_0 : List pb_El := [(.aload_n 0, 1, 0, 0), (.getfield 29, 3, 11, 7), (.sipush 161, 3, 161, 0), (.aload_n 0, 1, 0, 0), (.getfield 285, 3, 11, 36), (.imul, 1, 0, 0), (.iconst 1, 1, 1, 0), (.iadd, 1, 0, 0), (.iconst 4, 1, 4, 0), (.iload_n 1, 1, 0, 0), (.imul, 1, 0, 0), (.iadd, 1, 0, 0), (.iload_n 2, 1, 0, 0), (.iadd, 1, 0, 0), (.iaload, 1, 0, 0), (.ireturn, 1, 0, 0)]
/-- PointedBenchModel.deedOf(II)I -/
def kc_213 : List (Nat × List pb_El) := [(0, kb_213_0)]
def kb_214_0 : List pb_El := [(.aload_n 0, 1, 0, 0), (.iload_n 1, 1, 0, 0), (.putfield 285, 3, 11, 36), (.aload_n 0, 1, 0, 0), (.iconst 1, 1, 1, 0), (.iload_n 1, 1, 0, 0), (.invokevirtual 220, 3, 175, 3), (.ireturn, 1, 0, 0)]
/-- PointedBenchModel.hasYear(I)Z -/
def kc_214 : List (Nat × List pb_El) := [(0, kb_214_0)]
def kb_215_0 : List pb_El := [(.aload_n 0, 1, 0, 0), (.iconst 0, 1, 0, 0), (.putfield 81, 3, 11, 0), (.aload_n 0, 1, 0, 0), (.iload_n 1, 1, 0, 0), (.invokevirtual 288, 3, 214, 2), (.ifCond .ne 6, 3, 16, 0), (.bipush (-2), 2, 2, 1), (.ireturn, 1, 0, 0)]
def kb_215_16 : List pb_El := [(.iload_n 2, 1, 0, 0), (.iconst (-1), 1, 1, 1), (.if_icmp .ne 17, 3, 35, 0), (.iload_n 3, 1, 0, 0), (.ifCond .ne 10, 3, 32, 0), (.aload_n 0, 1, 0, 0), (.invokevirtual 291, 3, 212, 1), (.goto 5, 3, 34, 0)]
def kb_215_32 : List pb_El := [(.bipush (-2), 2, 2, 1)]
def kb_215_34 : List pb_El := [(.ireturn, 1, 0, 0)]
def kb_215_35 : List pb_El := [(.iload_n 2, 1, 0, 0), (.iconst 0, 1, 0, 0), (.aload_n 0, 1, 0, 0), (.invokevirtual 291, 3, 212, 1), (.iconst 1, 1, 1, 0), (.isub, 1, 0, 0), (.invokestatic 93, 3, 168, 3), (.ifCond .eq 21, 3, 67, 0), (.iload_n 3, 1, 0, 0), (.iconst 0, 1, 0, 0), (.iconst 3, 1, 3, 0), (.invokestatic 93, 3, 168, 3), (.ifCond .eq 12, 3, 67, 0), (.aload_n 0, 1, 0, 0), (.iload_n 2, 1, 0, 0), (.iload_n 3, 1, 0, 0), (.invokevirtual 294, 3, 213, 3), (.goto 5, 3, 69, 0)]
def kb_215_67 : List pb_El := [(.bipush (-2), 2, 2, 1)]
def kb_215_69 : List pb_El := [(.ireturn, 1, 0, 0)]
/-- PointedBenchModel.deed(III)I -/
def kc_215 : List (Nat × List pb_El) := [(0, kb_215_0), (16, kb_215_16), (32, kb_215_32), (34, kb_215_34), (35, kb_215_35), (67, kb_215_67), (69, kb_215_69)]
def kb_216_0 : List pb_El := [(.aload_n 0, 1, 0, 0), (.getfield 47, 3, 11, 32), (.iload_n 1, 1, 0, 0), (.iaload, 1, 0, 0), (.ifCond .eq 34, 3, 40, 0), (.aload_n 0, 1, 0, 0), (.getfield 246, 3, 11, 27), (.bipush 6, 2, 6, 0), (.if_icmp .eq 25, 3, 40, 0), (.bipush 10, 2, 10, 0), (.aload_n 0, 1, 0, 0), (.iconst 2, 1, 2, 0), (.aload_n 0, 1, 0, 0), (.getfield 246, 3, 11, 27), (.iadd, 1, 0, 0), (.invokevirtual 233, 3, 197, 2), (.imul, 1, 0, 0), (.aload_n 0, 1, 0, 0), (.getfield 47, 3, 11, 32), (.iload_n 1, 1, 0, 0), (.iaload, 1, 0, 0), (.if_icmp .ge 5, 3, 42, 0)]
def kb_216_40 : List pb_El := [(.iconst 0, 1, 0, 0), (.ireturn, 1, 0, 0)]
def kb_216_42 : List pb_El := [(.aload_n 0, 1, 0, 0), (.getfield 47, 3, 11, 32), (.iload_n 1, 1, 0, 0), (.iconst 0, 1, 0, 0), (.iastore, 1, 0, 0), (.aload_n 0, 1, 0, 0), (.dup, 1, 0, 0), (.getfield 252, 3, 11, 29), (.iconst 1, 1, 1, 0), (.iadd, 1, 0, 0), (.putfield 252, 3, 11, 29), (.iconst 1, 1, 1, 0), (.ireturn, 1, 0, 0)]
/-- PointedBenchModel.getsOut(I)Z -/
def kc_216 : List (Nat × List pb_El) := [(0, kb_216_0), (40, kb_216_40), (42, kb_216_42)]
def kb_217_0 : List pb_El := [(.aload_n 0, 1, 0, 0), (.getfield 243, 3, 11, 26), (.bipush 99, 2, 99, 0), (.if_icmp .ne 5, 3, 11, 0), (.iconst 0, 1, 0, 0), (.ireturn, 1, 0, 0)]
def kb_217_11 : List pb_El := [(.iconst 0, 1, 0, 0), (.istore_n 1, 1, 0, 0)]
def kb_217_13 : List pb_El := [(.iload_n 1, 1, 0, 0), (.aload_n 0, 1, 0, 0), (.getfield 240, 3, 11, 25), (.if_icmp .ge 51, 3, 69, 0), (.aload_n 0, 1, 0, 0), (.getfield 44, 3, 11, 31), (.iload_n 1, 1, 0, 0), (.bipush 99, 2, 99, 0), (.aload_n 0, 1, 0, 0), (.getfield 44, 3, 11, 31), (.iload_n 1, 1, 0, 0), (.iaload, 1, 0, 0), (.iconst 1, 1, 1, 0), (.iadd, 1, 0, 0), (.invokestatic 297, 3, 171, 2), (.iastore, 1, 0, 0), (.aload_n 0, 1, 0, 0), (.getfield 47, 3, 11, 32), (.iload_n 1, 1, 0, 0), (.dup2, 1, 0, 0), (.iaload, 1, 0, 0), (.aload_n 0, 1, 0, 0), (.getfield 47, 3, 11, 32), (.iload_n 1, 1, 0, 0), (.iaload, 1, 0, 0), (.ifCond .le 7, 3, 60, 0), (.iconst 1, 1, 1, 0), (.goto 4, 3, 61, 0)]
def kb_217_60 : List pb_El := [(.iconst 0, 1, 0, 0)]
def kb_217_61 : List pb_El := [(.isub, 1, 0, 0), (.iastore, 1, 0, 0), (.iinc 1 1, 3, 1, 0), (.goto (-53), 3, 13, 0)]
def kb_217_69 : List pb_El := [(.aload_n 0, 1, 0, 0), (.dup, 1, 0, 0), (.getfield 243, 3, 11, 26), (.iconst 1, 1, 1, 0), (.iadd, 1, 0, 0), (.putfield 243, 3, 11, 26), (.iconst 1, 1, 1, 0), (.ireturn, 1, 0, 0)]
/-- PointedBenchModel.goesOn()Z -/
def kc_217 : List (Nat × List pb_El) := [(0, kb_217_0), (11, kb_217_11), (13, kb_217_13), (60, kb_217_60), (61, kb_217_61), (69, kb_217_69)]
def kb_218_0 : List pb_El := [(.aload_n 0, 1, 0, 0), (.iload_n 2, 1, 0, 0), (.invokevirtual 300, 3, 200, 2), (.ifCond .ne 5, 3, 10, 0), (.iconst 0, 1, 0, 0), (.ireturn, 1, 0, 0)]
def kb_218_10 : List pb_El := [(.aload_n 0, 1, 0, 0), (.getfield 41, 3, 11, 30), (.iload_n 2, 1, 0, 0), (.iload_n 1, 1, 0, 0), (.ifCond .ne 16, 3, 32, 0), (.aload_n 0, 1, 0, 0), (.getfield 41, 3, 11, 30), (.iload_n 2, 1, 0, 0), (.iaload, 1, 0, 0), (.iconst 1, 1, 1, 0), (.iload_n 3, 1, 0, 0), (.ishl, 1, 0, 0), (.ior, 1, 0, 0), (.goto 15, 3, 44, 0)]
def kb_218_32 : List pb_El := [(.aload_n 0, 1, 0, 0), (.getfield 41, 3, 11, 30), (.iload_n 2, 1, 0, 0), (.iaload, 1, 0, 0), (.iconst 1, 1, 1, 0), (.iload_n 3, 1, 0, 0), (.ishl, 1, 0, 0), (.iconst (-1), 1, 1, 1), (.ixor, 1, 0, 0), (.iand, 1, 0, 0)]
def kb_218_44 : List pb_El := [(.iastore, 1, 0, 0), (.iconst 1, 1, 1, 0), (.ireturn, 1, 0, 0)]
/-- PointedBenchModel.doesMan(III)Z -/
def kc_218 : List (Nat × List pb_El) := [(0, kb_218_0), (10, kb_218_10), (32, kb_218_32), (44, kb_218_44)]
def kb_219_0 : List pb_El := [(.aload_n 0, 1, 0, 0), (.iload_n 2, 1, 0, 0), (.invokevirtual 282, 3, 201, 2), (.ifCond .ne 5, 3, 10, 0), (.iconst 0, 1, 0, 0), (.ireturn, 1, 0, 0)]
def kb_219_10 : List pb_El := [(.iload_n 1, 1, 0, 0), (.iconst 4, 1, 4, 0), (.if_icmp .ne 9, 3, 21, 0), (.aload_n 0, 1, 0, 0), (.iload_n 2, 1, 0, 0), (.invokevirtual 303, 3, 216, 2), (.ireturn, 1, 0, 0)]
def kb_219_21 : List pb_El := [(.iload_n 1, 1, 0, 0), (.iconst 2, 1, 2, 0), (.if_icmp .ne 18, 3, 41, 0), (.aload_n 0, 1, 0, 0), (.getfield 50, 3, 11, 33), (.iload_n 2, 1, 0, 0), (.dup2, 1, 0, 0), (.iaload, 1, 0, 0), (.iconst 1, 1, 1, 0), (.iload_n 3, 1, 0, 0), (.ishl, 1, 0, 0), (.ior, 1, 0, 0), (.iastore, 1, 0, 0), (.goto 33, 3, 71, 0)]
def kb_219_41 : List pb_El := [(.aload_n 0, 1, 0, 0), (.getfield 53, 3, 11, 34), (.bipush 6, 2, 6, 0), (.iload_n 2, 1, 0, 0), (.imul, 1, 0, 0), (.iload_n 3, 1, 0, 0), (.iadd, 1, 0, 0), (.bipush 9, 2, 9, 0), (.aload_n 0, 1, 0, 0), (.getfield 53, 3, 11, 34), (.bipush 6, 2, 6, 0), (.iload_n 2, 1, 0, 0), (.imul, 1, 0, 0), (.iload_n 3, 1, 0, 0), (.iadd, 1, 0, 0), (.iaload, 1, 0, 0), (.iload 4, 2, 0, 0), (.iadd, 1, 0, 0), (.invokestatic 297, 3, 171, 2), (.iastore, 1, 0, 0)]
def kb_219_71 : List pb_El := [(.iconst 1, 1, 1, 0), (.ireturn, 1, 0, 0)]
/-- PointedBenchModel.doesChild(IIII)Z -/
def kc_219 : List (Nat × List pb_El) := [(0, kb_219_0), (10, kb_219_10), (21, kb_219_21), (41, kb_219_41), (71, kb_219_71)]
def kb_220_0 : List pb_El := [(.iload_n 1, 1, 0, 0), (.tableswitch 77 0 5 #[39, 39, 47, 47, 47, 57], 39, 0, 0)]
def kb_220_40 : List pb_El := [(.aload_n 0, 1, 0, 0), (.iload_n 1, 1, 0, 0), (.iload_n 2, 1, 0, 0), (.iload_n 3, 1, 0, 0), (.invokevirtual 306, 3, 218, 4), (.ireturn, 1, 0, 0)]
def kb_220_48 : List pb_El := [(.aload_n 0, 1, 0, 0), (.iload_n 1, 1, 0, 0), (.iload_n 2, 1, 0, 0), (.iload_n 3, 1, 0, 0), (.iload 4, 2, 0, 0), (.invokevirtual 309, 3, 219, 5), (.ireturn, 1, 0, 0)]
def kb_220_58 : List pb_El := [(.aload_n 0, 1, 0, 0), (.aload_n 0, 1, 0, 0), (.invokevirtual 313, 3, 210, 1), (.putfield 246, 3, 11, 27), (.aload_n 0, 1, 0, 0), (.dup, 1, 0, 0), (.getfield 249, 3, 11, 28), (.iconst 1, 1, 1, 0), (.iadd, 1, 0, 0), (.putfield 249, 3, 11, 28), (.iconst 1, 1, 1, 0), (.ireturn, 1, 0, 0)]
def kb_220_78 : List pb_El := [(.aload_n 0, 1, 0, 0), (.invokevirtual 316, 3, 217, 1), (.ireturn, 1, 0, 0)]
/-- PointedBenchModel.does(IIII)Z -/
def kc_220 : List (Nat × List pb_El) := [(0, kb_220_0), (40, kb_220_40), (48, kb_220_48), (58, kb_220_58), (78, kb_220_78)]
def kb_221_0 : List pb_El := [(.aload_n 0, 1, 0, 0), (.aload_n 0, 1, 0, 0), (.iload_n 1, 1, 0, 0), (.iconst 0, 1, 0, 0), (.invokevirtual 294, 3, 213, 3), (.aload_n 0, 1, 0, 0), (.iload_n 1, 1, 0, 0), (.iconst 1, 1, 1, 0), (.invokevirtual 294, 3, 213, 3), (.aload_n 0, 1, 0, 0), (.iload_n 1, 1, 0, 0), (.iconst 2, 1, 2, 0), (.invokevirtual 294, 3, 213, 3), (.aload_n 0, 1, 0, 0), (.iload_n 1, 1, 0, 0), (.iconst 3, 1, 3, 0), (.invokevirtual 294, 3, 213, 3), (.invokevirtual 319, 3, 220, 5), (.ireturn, 1, 0, 0)]
/-- PointedBenchModel.doesDeed(I)Z -/
def kc_221 : List (Nat × List pb_El) := [(0, kb_221_0)]
def kb_222_0 : List pb_El := [(.iconst 0, 1, 0, 0), (.istore_n 2, 1, 0, 0)]
def kb_222_2 : List pb_El := [(.iload_n 2, 1, 0, 0), (.iload_n 1, 1, 0, 0), (.if_icmp .ge 17, 3, 21, 0), (.aload_n 0, 1, 0, 0), (.iload_n 2, 1, 0, 0), (.invokevirtual 322, 3, 221, 2), (.ifCond .eq 9, 3, 21, 0), (.iinc 2 1, 3, 1, 0), (.goto (-16), 3, 2, 0)]
def kb_222_21 : List pb_El := [(.iload_n 2, 1, 0, 0), (.ireturn, 1, 0, 0)]
/-- PointedBenchModel.play(I)I -/
def kc_222 : List (Nat × List pb_El) := [(0, kb_222_0), (2, kb_222_2), (21, kb_222_21)]
def kb_223_0 : List pb_El := [(.aload_n 0, 1, 0, 0), (.iload_n 2, 1, 0, 0), (.invokevirtual 288, 3, 214, 2), (.ifCond .eq 15, 3, 20, 0), (.aload_n 0, 1, 0, 0), (.iload_n 1, 1, 0, 0), (.invokevirtual 279, 3, 198, 2), (.ifCond .eq 7, 3, 20, 0), (.iconst 1, 1, 1, 0), (.goto 4, 3, 21, 0)]
def kb_223_20 : List pb_El := [(.iconst 0, 1, 0, 0)]
def kb_223_21 : List pb_El := [(.ireturn, 1, 0, 0)]
/-- PointedBenchModel.layAll(II)Z -/
def kc_223 : List (Nat × List pb_El) := [(0, kb_223_0), (20, kb_223_20), (21, kb_223_21)]
def kb_224_0 : List pb_El := [(.aload_n 0, 1, 0, 0), (.iconst 0, 1, 0, 0), (.putfield 81, 3, 11, 0), (.aload_n 0, 1, 0, 0), (.iload_n 1, 1, 0, 0), (.iload_n 2, 1, 0, 0), (.invokevirtual 325, 3, 223, 3), (.ifCond .eq 14, 3, 25, 0), (.aload_n 0, 1, 0, 0), (.aload_n 0, 1, 0, 0), (.invokevirtual 291, 3, 212, 1), (.invokevirtual 328, 3, 222, 2), (.goto 4, 3, 26, 0)]
def kb_224_25 : List pb_El := [(.iconst (-1), 1, 1, 1)]
def kb_224_26 : List pb_El := [(.ireturn, 1, 0, 0)]
/-- PointedBenchModel.till(II)I -/
def kc_224 : List (Nat × List pb_El) := [(0, kb_224_0), (25, kb_224_25), (26, kb_224_26)]
def kb_225_0 : List pb_El := [(.iload_n 1, 1, 0, 0), (.bipush 10, 2, 10, 0), (.irem, 1, 0, 0), (.istore_n 2, 1, 0, 0), (.iload_n 1, 1, 0, 0), (.bipush 10, 2, 10, 0), (.idiv, 1, 0, 0), (.tableswitch 129 1 5 #[35, 54, 73, 92, 111], 35, 0, 0)]
def kb_225_44 : List pb_El := [(.iload_n 2, 1, 0, 0), (.aload_n 0, 1, 0, 0), (.getfield 237, 3, 11, 24), (.if_icmp .ge 12, 3, 61, 0), (.aload_n 0, 1, 0, 0), (.getfield 41, 3, 11, 30), (.iload_n 2, 1, 0, 0), (.iaload, 1, 0, 0), (.goto 4, 3, 62, 0)]
def kb_225_61 : List pb_El := [(.iconst (-1), 1, 1, 1)]
def kb_225_62 : List pb_El := [(.ireturn, 1, 0, 0)]
def kb_225_63 : List pb_El := [(.iload_n 2, 1, 0, 0), (.aload_n 0, 1, 0, 0), (.getfield 240, 3, 11, 25), (.if_icmp .ge 12, 3, 80, 0), (.aload_n 0, 1, 0, 0), (.getfield 44, 3, 11, 31), (.iload_n 2, 1, 0, 0), (.iaload, 1, 0, 0), (.goto 4, 3, 81, 0)]
def kb_225_80 : List pb_El := [(.iconst (-1), 1, 1, 1)]
def kb_225_81 : List pb_El := [(.ireturn, 1, 0, 0)]
def kb_225_82 : List pb_El := [(.iload_n 2, 1, 0, 0), (.aload_n 0, 1, 0, 0), (.getfield 240, 3, 11, 25), (.if_icmp .ge 12, 3, 99, 0), (.aload_n 0, 1, 0, 0), (.getfield 47, 3, 11, 32), (.iload_n 2, 1, 0, 0), (.iaload, 1, 0, 0), (.goto 4, 3, 100, 0)]
def kb_225_99 : List pb_El := [(.iconst (-1), 1, 1, 1)]
def kb_225_100 : List pb_El := [(.ireturn, 1, 0, 0)]
def kb_225_101 : List pb_El := [(.iload_n 2, 1, 0, 0), (.aload_n 0, 1, 0, 0), (.getfield 240, 3, 11, 25), (.if_icmp .ge 12, 3, 118, 0), (.aload_n 0, 1, 0, 0), (.getfield 50, 3, 11, 33), (.iload_n 2, 1, 0, 0), (.iaload, 1, 0, 0), (.goto 4, 3, 119, 0)]
def kb_225_118 : List pb_El := [(.iconst (-1), 1, 1, 1)]
def kb_225_119 : List pb_El := [(.ireturn, 1, 0, 0)]
def kb_225_120 : List pb_El := [(.iload_n 2, 1, 0, 0), (.aload_n 0, 1, 0, 0), (.getfield 240, 3, 11, 25), (.if_icmp .ge 11, 3, 136, 0), (.aload_n 0, 1, 0, 0), (.iload_n 2, 1, 0, 0), (.invokevirtual 270, 3, 207, 2), (.goto 4, 3, 137, 0)]
def kb_225_136 : List pb_El := [(.iconst (-1), 1, 1, 1)]
def kb_225_137 : List pb_El := [(.ireturn, 1, 0, 0)]
def kb_225_138 : List pb_El := [(.iconst (-1), 1, 1, 1), (.ireturn, 1, 0, 0)]
/-- PointedBenchModel.ofOne(I)I -/
def kc_225 : List (Nat × List pb_El) := [(0, kb_225_0), (44, kb_225_44), (61, kb_225_61), (62, kb_225_62), (63, kb_225_63), (80, kb_225_80), (81, kb_225_81), (82, kb_225_82), (99, kb_225_99), (100, kb_225_100), (101, kb_225_101), (118, kb_225_118), (119, kb_225_119), (120, kb_225_120), (136, kb_225_136), (137, kb_225_137), (138, kb_225_138)]
def kb_226_0 : List pb_El := [(.iload_n 1, 1, 0, 0), (.bipush 100, 2, 100, 0), (.if_icmp .lt 58, 3, 61, 0), (.iload_n 1, 1, 0, 0), (.sipush 160, 3, 160, 0), (.if_icmp .ge 49, 3, 59, 0), (.aload_n 0, 1, 0, 0), (.iload_n 1, 1, 0, 0), (.bipush 100, 2, 100, 0), (.isub, 1, 0, 0), (.bipush 10, 2, 10, 0), (.idiv, 1, 0, 0), (.invokevirtual 282, 3, 201, 2), (.ifCond .eq 35, 3, 59, 0), (.iload_n 1, 1, 0, 0), (.bipush 10, 2, 10, 0), (.irem, 1, 0, 0), (.bipush 6, 2, 6, 0), (.if_icmp .ge 26, 3, 59, 0), (.aload_n 0, 1, 0, 0), (.getfield 53, 3, 11, 34), (.bipush 6, 2, 6, 0), (.iload_n 1, 1, 0, 0), (.bipush 100, 2, 100, 0), (.isub, 1, 0, 0), (.bipush 10, 2, 10, 0), (.idiv, 1, 0, 0), (.imul, 1, 0, 0), (.iload_n 1, 1, 0, 0), (.bipush 10, 2, 10, 0), (.irem, 1, 0, 0), (.iadd, 1, 0, 0), (.iaload, 1, 0, 0), (.goto 4, 3, 60, 0)]
def kb_226_59 : List pb_El := [(.iconst (-1), 1, 1, 1)]
def kb_226_60 : List pb_El := [(.ireturn, 1, 0, 0)]
def kb_226_61 : List pb_El := [(.iload_n 1, 1, 0, 0), (.tableswitch 68 0 5 #[38, 43, 48, 53, 58, 63], 38, 0, 0)]
def kb_226_100 : List pb_El := [(.aload_n 0, 1, 0, 0), (.getfield 243, 3, 11, 26), (.ireturn, 1, 0, 0)]
def kb_226_105 : List pb_El := [(.aload_n 0, 1, 0, 0), (.getfield 246, 3, 11, 27), (.ireturn, 1, 0, 0)]
def kb_226_110 : List pb_El := [(.aload_n 0, 1, 0, 0), (.getfield 249, 3, 11, 28), (.ireturn, 1, 0, 0)]
def kb_226_115 : List pb_El := [(.aload_n 0, 1, 0, 0), (.invokevirtual 331, 3, 203, 1), (.ireturn, 1, 0, 0)]
def kb_226_120 : List pb_El := [(.aload_n 0, 1, 0, 0), (.invokevirtual 313, 3, 210, 1), (.ireturn, 1, 0, 0)]
def kb_226_125 : List pb_El := [(.aload_n 0, 1, 0, 0), (.getfield 252, 3, 11, 29), (.ireturn, 1, 0, 0)]
def kb_226_130 : List pb_El := [(.aload_n 0, 1, 0, 0), (.iload_n 1, 1, 0, 0), (.invokevirtual 334, 3, 225, 2), (.ireturn, 1, 0, 0)]
/-- PointedBenchModel.ofState(I)I -/
def kc_226 : List (Nat × List pb_El) := [(0, kb_226_0), (59, kb_226_59), (60, kb_226_60), (61, kb_226_61), (100, kb_226_100), (105, kb_226_105), (110, kb_226_110), (115, kb_226_115), (120, kb_226_120), (125, kb_226_125), (130, kb_226_130)]
def kb_227_0 : List pb_El := [(.aload_n 0, 1, 0, 0), (.iconst 0, 1, 0, 0), (.putfield 81, 3, 11, 0), (.aload_n 0, 1, 0, 0), (.iload_n 1, 1, 0, 0), (.iload_n 2, 1, 0, 0), (.invokevirtual 325, 3, 223, 3), (.ifCond .eq 33, 3, 44, 0), (.iload_n 3, 1, 0, 0), (.iconst 0, 1, 0, 0), (.aload_n 0, 1, 0, 0), (.invokevirtual 291, 3, 212, 1), (.invokestatic 93, 3, 168, 3), (.ifCond .eq 21, 3, 44, 0), (.aload_n 0, 1, 0, 0), (.iload_n 3, 1, 0, 0), (.invokevirtual 328, 3, 222, 2), (.iload_n 3, 1, 0, 0), (.if_icmp .ne 12, 3, 44, 0), (.aload_n 0, 1, 0, 0), (.iload 4, 2, 0, 0), (.invokevirtual 337, 3, 226, 2), (.goto 4, 3, 45, 0)]
def kb_227_44 : List pb_El := [(.iconst (-1), 1, 1, 1)]
def kb_227_45 : List pb_El := [(.ireturn, 1, 0, 0)]
/-- PointedBenchModel.state(IIII)I -/
def kc_227 : List (Nat × List pb_El) := [(0, kb_227_0), (44, kb_227_44), (45, kb_227_45)]
def kb_228_0 : List pb_El := [(.aload_n 0, 1, 0, 0), (.iconst 0, 1, 0, 0), (.putfield 81, 3, 11, 0), (.iload_n 2, 1, 0, 0), (.iconst 0, 1, 0, 0), (.bipush 63, 2, 63, 0), (.invokestatic 93, 3, 168, 3), (.ifCond .eq 11, 3, 23, 0), (.aload_n 0, 1, 0, 0), (.iload_n 1, 1, 0, 0), (.invokevirtual 279, 3, 198, 2), (.ifCond .ne 5, 3, 25, 0)]
def kb_228_23 : List pb_El := [(.iconst (-1), 1, 1, 1), (.ireturn, 1, 0, 0)]
def kb_228_25 : List pb_El := [(.aload_n 0, 1, 0, 0), (.invokevirtual 273, 3, 208, 1), (.aload_n 0, 1, 0, 0), (.iload_n 2, 1, 0, 0), (.invokevirtual 276, 3, 209, 2), (.ireturn, 1, 0, 0)]
/-- PointedBenchModel.picked(II)I -/
def kc_228 : List (Nat × List pb_El) := [(0, kb_228_0), (23, kb_228_23), (25, kb_228_25)]
def kb_229_0 : List pb_El := [(.aload_n 0, 1, 0, 0), (.iconst 0, 1, 0, 0), (.putfield 81, 3, 11, 0), (.aload_n 0, 1, 0, 0), (.iload_n 1, 1, 0, 0), (.invokevirtual 279, 3, 198, 2), (.ifCond .eq 11, 3, 21, 0), (.aload_n 0, 1, 0, 0), (.iload_n 2, 1, 0, 0), (.invokevirtual 300, 3, 200, 2), (.ifCond .ne 5, 3, 23, 0)]
def kb_229_21 : List pb_El := [(.iconst (-1), 1, 1, 1), (.ireturn, 1, 0, 0)]
def kb_229_23 : List pb_El := [(.aload_n 0, 1, 0, 0), (.getfield 41, 3, 11, 30), (.iload_n 2, 1, 0, 0), (.iaload, 1, 0, 0), (.istore 4, 2, 0, 0), (.iconst (-1), 1, 1, 1), (.istore 5, 2, 0, 0), (.iconst 0, 1, 0, 0), (.istore 6, 2, 0, 0)]
def kb_229_37 : List pb_El := [(.iload 6, 2, 0, 0), (.bipush 64, 2, 64, 0), (.if_icmp .ge 76, 3, 117, 0), (.iload 5, 2, 0, 0), (.iconst (-1), 1, 1, 1), (.if_icmp .eq 16, 3, 63, 0), (.iload 6, 2, 0, 0), (.invokestatic 340, 3, 172, 1), (.iload 5, 2, 0, 0), (.invokestatic 340, 3, 172, 1), (.if_icmp .ge 7, 3, 67, 0)]
def kb_229_63 : List pb_El := [(.iconst 1, 1, 1, 0), (.goto 4, 3, 68, 0)]
def kb_229_67 : List pb_El := [(.iconst 0, 1, 0, 0)]
def kb_229_68 : List pb_El := [(.istore 7, 2, 0, 0), (.aload_n 0, 1, 0, 0), (.getfield 41, 3, 11, 30), (.iload_n 2, 1, 0, 0), (.iload 4, 2, 0, 0), (.iload 6, 2, 0, 0), (.ior, 1, 0, 0), (.iastore, 1, 0, 0), (.iload 7, 2, 0, 0), (.ifCond .eq 24, 3, 107, 0), (.iload 6, 2, 0, 0), (.iload 4, 2, 0, 0), (.iand, 1, 0, 0), (.ifCond .ne 16, 3, 107, 0), (.aload_n 0, 1, 0, 0), (.invokevirtual 313, 3, 210, 1), (.iload_n 2, 1, 0, 0), (.if_icmp .ne 8, 3, 107, 0), (.iload 6, 2, 0, 0), (.goto 5, 3, 109, 0)]
def kb_229_107 : List pb_El := [(.iload 5, 2, 0, 0)]
def kb_229_109 : List pb_El := [(.istore 5, 2, 0, 0), (.iinc 6 1, 3, 1, 0), (.goto (-77), 3, 37, 0)]
def kb_229_117 : List pb_El := [(.iload 5, 2, 0, 0), (.iconst (-1), 1, 1, 1), (.if_icmp .eq 7, 3, 127, 0), (.iload_n 3, 1, 0, 0), (.ifCond .eq 8, 3, 132, 0)]
def kb_229_127 : List pb_El := [(.iload 5, 2, 0, 0), (.goto 8, 3, 137, 0)]
def kb_229_132 : List pb_El := [(.iload 5, 2, 0, 0), (.invokestatic 340, 3, 172, 1)]
def kb_229_137 : List pb_El := [(.ireturn, 1, 0, 0)]
/-- PointedBenchModel.show(IIZ)I -/
def kc_229 : List (Nat × List pb_El) := [(0, kb_229_0), (21, kb_229_21), (23, kb_229_23), (37, kb_229_37), (63, kb_229_63), (67, kb_229_67), (68, kb_229_68), (107, kb_229_107), (109, kb_229_109), (117, kb_229_117), (127, kb_229_127), (132, kb_229_132), (137, kb_229_137)]
def kb_230_0 : List pb_El := [(.aload_n 0, 1, 0, 0), (.invokevirtual 273, 3, 208, 1), (.aload_n 0, 1, 0, 0), (.invokevirtual 331, 3, 203, 1), (.istore_n 3, 1, 0, 0), (.iconst (-1), 1, 1, 1), (.istore 4, 2, 0, 0), (.iconst 1, 1, 1, 0), (.istore 5, 2, 0, 0)]
def kb_230_15 : List pb_El := [(.iload 5, 2, 0, 0), (.bipush 64, 2, 64, 0), (.if_icmp .ge 88, 3, 107, 0), (.iload 4, 2, 0, 0), (.iconst (-1), 1, 1, 1), (.if_icmp .eq 36, 3, 61, 0), (.iload_n 2, 1, 0, 0), (.ifCond .eq 19, 3, 48, 0), (.iload 5, 2, 0, 0), (.invokestatic 340, 3, 172, 1), (.iload 4, 2, 0, 0), (.invokestatic 340, 3, 172, 1), (.if_icmp .le 23, 3, 65, 0), (.goto 16, 3, 61, 0)]
def kb_230_48 : List pb_El := [(.iload 5, 2, 0, 0), (.invokestatic 340, 3, 172, 1), (.iload 4, 2, 0, 0), (.invokestatic 340, 3, 172, 1), (.if_icmp .ge 7, 3, 65, 0)]
def kb_230_61 : List pb_El := [(.iconst 1, 1, 1, 0), (.goto 4, 3, 66, 0)]
def kb_230_65 : List pb_El := [(.iconst 0, 1, 0, 0)]
def kb_230_66 : List pb_El := [(.istore 6, 2, 0, 0), (.iload 6, 2, 0, 0), (.ifCond .eq 27, 3, 97, 0), (.iload 5, 2, 0, 0), (.iload_n 3, 1, 0, 0), (.iconst (-1), 1, 1, 1), (.ixor, 1, 0, 0), (.iand, 1, 0, 0), (.ifCond .ne 18, 3, 97, 0), (.aload_n 0, 1, 0, 0), (.iload 5, 2, 0, 0), (.invokevirtual 276, 3, 209, 2), (.iload_n 1, 1, 0, 0), (.if_icmp .ne 8, 3, 97, 0), (.iload 5, 2, 0, 0), (.goto 5, 3, 99, 0)]
def kb_230_97 : List pb_El := [(.iload 4, 2, 0, 0)]
def kb_230_99 : List pb_El := [(.istore 4, 2, 0, 0), (.iinc 5 1, 3, 1, 0), (.goto (-89), 3, 15, 0)]
def kb_230_107 : List pb_El := [(.iload 4, 2, 0, 0), (.ireturn, 1, 0, 0)]
/-- PointedBenchModel.benchOf(IZ)I -/
def kc_230 : List (Nat × List pb_El) := [(0, kb_230_0), (15, kb_230_15), (48, kb_230_48), (61, kb_230_61), (65, kb_230_65), (66, kb_230_66), (97, kb_230_97), (99, kb_230_99), (107, kb_230_107)]
def kb_231_0 : List pb_El := [(.aload_n 0, 1, 0, 0), (.iconst 0, 1, 0, 0), (.putfield 81, 3, 11, 0), (.aload_n 0, 1, 0, 0), (.iload_n 1, 1, 0, 0), (.invokevirtual 279, 3, 198, 2), (.ifCond .eq 11, 3, 21, 0), (.aload_n 0, 1, 0, 0), (.iload_n 2, 1, 0, 0), (.invokevirtual 300, 3, 200, 2), (.ifCond .ne 5, 3, 23, 0)]
def kb_231_21 : List pb_El := [(.iconst (-1), 1, 1, 1), (.ireturn, 1, 0, 0)]
def kb_231_23 : List pb_El := [(.aload_n 0, 1, 0, 0), (.iload_n 2, 1, 0, 0), (.iconst 1, 1, 1, 0), (.invokevirtual 343, 3, 230, 3), (.istore 4, 2, 0, 0), (.iload 4, 2, 0, 0), (.iconst (-1), 1, 1, 1), (.if_icmp .eq 7, 3, 41, 0), (.iload_n 3, 1, 0, 0), (.ifCond .eq 8, 3, 46, 0)]
def kb_231_41 : List pb_El := [(.iload 4, 2, 0, 0), (.goto 8, 3, 51, 0)]
def kb_231_46 : List pb_El := [(.iload 4, 2, 0, 0), (.invokestatic 340, 3, 172, 1)]
def kb_231_51 : List pb_El := [(.ireturn, 1, 0, 0)]
/-- PointedBenchModel.bench(IIZ)I -/
def kc_231 : List (Nat × List pb_El) := [(0, kb_231_0), (21, kb_231_21), (23, kb_231_23), (41, kb_231_41), (46, kb_231_46), (51, kb_231_51)]
def kb_232_0 : List pb_El := [(.lload_n 0, 1, 0, 0), (.lstore 4, 2, 0, 0), (.lload_n 2, 1, 0, 0), (.lstore 6, 2, 0, 0)]
def kb_232_6 : List pb_El := [(.lload 6, 2, 0, 0), (.lconst 0, 1, 0, 0), (.lcmp, 1, 0, 0), (.ifCond .eq 21, 3, 31, 0), (.lload 4, 2, 0, 0), (.lload 6, 2, 0, 0), (.lrem, 1, 0, 0), (.lstore 8, 2, 0, 0), (.lload 6, 2, 0, 0), (.lstore 4, 2, 0, 0), (.lload 8, 2, 0, 0), (.lstore 6, 2, 0, 0), (.goto (-22), 3, 6, 0)]
def kb_232_31 : List pb_El := [(.lload 4, 2, 0, 0), (.lreturn, 1, 0, 0)]
/-- PointedBenchModel.common(JJ)J -/
def kc_232 : List (Nat × List pb_El) := [(0, kb_232_0), (6, kb_232_6), (31, kb_232_31)]
def kb_233_0 : List pb_El := [(.iload 4, 2, 0, 0), (.ifCond .eq 7, 3, 9, 0), (.lload_n 2, 1, 0, 0), (.goto 4, 3, 10, 0)]
def kb_233_9 : List pb_El := [(.lload_n 0, 1, 0, 0)]
def kb_233_10 : List pb_El := [(.lload_n 2, 1, 0, 0), (.lload_n 0, 1, 0, 0), (.invokestatic 347, 3, 232, 2), (.ldiv, 1, 0, 0), (.lreturn, 1, 0, 0)]
/-- PointedBenchModel.part(JJZ)J -/
def kc_233 : List (Nat × List pb_El) := [(0, kb_233_0), (9, kb_233_9), (10, kb_233_10)]
def kb_234_0 : List pb_El := [(.lconst 1, 1, 0, 0), (.lstore_n 3, 1, 0, 0), (.iconst 0, 1, 0, 0), (.istore 5, 2, 0, 0)]
def kb_234_5 : List pb_El := [(.iload 5, 2, 0, 0), (.iload_n 2, 1, 0, 0), (.if_icmp .ge 13, 3, 21, 0), (.lload_n 3, 1, 0, 0), (.lload_n 0, 1, 0, 0), (.lmul, 1, 0, 0), (.lstore_n 3, 1, 0, 0), (.iinc 5 1, 3, 1, 0), (.goto (-13), 3, 5, 0)]
def kb_234_21 : List pb_El := [(.lload_n 3, 1, 0, 0), (.lreturn, 1, 0, 0)]
/-- PointedBenchModel.times(JI)J -/
def kc_234 : List (Nat × List pb_El) := [(0, kb_234_0), (5, kb_234_5), (21, kb_234_21)]
def kb_235_0 : List pb_El := [(.aload_n 0, 1, 0, 0), (.iconst 0, 1, 0, 0), (.putfield 81, 3, 11, 0), (.aload_n 0, 1, 0, 0), (.iload_n 1, 1, 0, 0), (.invokevirtual 279, 3, 198, 2), (.ifCond .eq 19, 3, 29, 0), (.aload_n 0, 1, 0, 0), (.iload_n 2, 1, 0, 0), (.invokevirtual 282, 3, 201, 2), (.ifCond .eq 11, 3, 29, 0), (.aload_n 0, 1, 0, 0), (.iload_n 2, 1, 0, 0), (.invokevirtual 258, 3, 202, 2), (.ifCond .ne 7, 3, 33, 0)]
def kb_235_29 : List pb_El := [(.ldc2_w 351, 3, 0, 0), (.lreturn, 1, 0, 0)]
def kb_235_33 : List pb_El := [(.aload_n 0, 1, 0, 0), (.invokevirtual 273, 3, 208, 1), (.aload_n 0, 1, 0, 0), (.invokevirtual 331, 3, 203, 1), (.iconst 1, 1, 1, 0), (.iload_n 2, 1, 0, 0), (.ishl, 1, 0, 0), (.iconst (-1), 1, 1, 1), (.ixor, 1, 0, 0), (.iand, 1, 0, 0), (.istore 4, 2, 0, 0), (.lconst 0, 1, 0, 0), (.lstore 5, 2, 0, 0), (.iconst 0, 1, 0, 0), (.istore 7, 2, 0, 0)]
def kb_235_55 : List pb_El := [(.iload 7, 2, 0, 0), (.bipush 64, 2, 64, 0), (.if_icmp .ge 60, 3, 119, 0), (.iload 7, 2, 0, 0), (.iload 4, 2, 0, 0), (.iconst (-1), 1, 1, 1), (.ixor, 1, 0, 0), (.iand, 1, 0, 0), (.ifCond .ne 7, 3, 76, 0), (.iconst 1, 1, 1, 0), (.goto 4, 3, 77, 0)]
def kb_235_76 : List pb_El := [(.iconst 0, 1, 0, 0)]
def kb_235_77 : List pb_El := [(.istore 8, 2, 0, 0), (.lload 5, 2, 0, 0), (.iload 8, 2, 0, 0), (.ifCond .eq 26, 3, 109, 0), (.aload_n 0, 1, 0, 0), (.iload 7, 2, 0, 0), (.invokevirtual 276, 3, 209, 2), (.aload_n 0, 1, 0, 0), (.iload 7, 2, 0, 0), (.iconst 1, 1, 1, 0), (.iload_n 2, 1, 0, 0), (.ishl, 1, 0, 0), (.ior, 1, 0, 0), (.invokevirtual 276, 3, 209, 2), (.if_icmp .eq 7, 3, 109, 0), (.lconst 1, 1, 0, 0), (.goto 4, 3, 110, 0)]
def kb_235_109 : List pb_El := [(.lconst 0, 1, 0, 0)]
def kb_235_110 : List pb_El := [(.ladd, 1, 0, 0), (.lstore 5, 2, 0, 0), (.iinc 7 1, 3, 1, 0), (.goto (-61), 3, 55, 0)]
def kb_235_119 : List pb_El := [(.lload 5, 2, 0, 0), (.ldc2_w 353, 3, 16, 0), (.iload 4, 2, 0, 0), (.invokestatic 340, 3, 172, 1), (.invokestatic 355, 3, 234, 2), (.iload_n 3, 1, 0, 0), (.invokestatic 359, 3, 233, 3), (.lreturn, 1, 0, 0)]
/-- PointedBenchModel.power(IIZ)J -/
def kc_235 : List (Nat × List pb_El) := [(0, kb_235_0), (29, kb_235_29), (33, kb_235_33), (55, kb_235_55), (76, kb_235_76), (77, kb_235_77), (109, kb_235_109), (110, kb_235_110), (119, kb_235_119)]
def kb_236_0 : List pb_El := [(.iconst 0, 1, 0, 0), (.istore_n 2, 1, 0, 0), (.iconst 0, 1, 0, 0), (.istore_n 3, 1, 0, 0)]
def kb_236_4 : List pb_El := [(.iload_n 3, 1, 0, 0), (.aload_n 0, 1, 0, 0), (.getfield 237, 3, 11, 24), (.if_icmp .ge 29, 3, 38, 0), (.aload_n 0, 1, 0, 0), (.getfield 41, 3, 11, 30), (.iload_n 3, 1, 0, 0), (.aload_n 0, 1, 0, 0), (.bipush 8, 2, 8, 0), (.iload_n 3, 1, 0, 0), (.iadd, 1, 0, 0), (.invokevirtual 233, 3, 197, 2), (.iconst 1, 1, 1, 0), (.iload_n 1, 1, 0, 0), (.ishl, 1, 0, 0), (.iconst (-1), 1, 1, 1), (.ixor, 1, 0, 0), (.iand, 1, 0, 0), (.iastore, 1, 0, 0), (.iinc 3 1, 3, 1, 0), (.goto (-31), 3, 4, 0)]
def kb_236_38 : List pb_El := [(.iconst 0, 1, 0, 0), (.istore_n 3, 1, 0, 0)]
def kb_236_40 : List pb_El := [(.iload_n 3, 1, 0, 0), (.aload_n 0, 1, 0, 0), (.getfield 240, 3, 11, 25), (.if_icmp .ge 31, 3, 76, 0), (.iload_n 2, 1, 0, 0), (.aload_n 0, 1, 0, 0), (.iload_n 3, 1, 0, 0), (.invokevirtual 270, 3, 207, 2), (.aload_n 0, 1, 0, 0), (.getfield 56, 3, 11, 35), (.iload_n 3, 1, 0, 0), (.iaload, 1, 0, 0), (.if_icmp .eq 7, 3, 67, 0), (.iconst 1, 1, 1, 0), (.goto 4, 3, 68, 0)]
def kb_236_67 : List pb_El := [(.iconst 0, 1, 0, 0)]
def kb_236_68 : List pb_El := [(.iadd, 1, 0, 0), (.istore_n 2, 1, 0, 0), (.iinc 3 1, 3, 1, 0), (.goto (-33), 3, 40, 0)]
def kb_236_76 : List pb_El := [(.iload_n 2, 1, 0, 0), (.ireturn, 1, 0, 0)]
/-- PointedBenchModel.changedBy(I)I -/
def kc_236 : List (Nat × List pb_El) := [(0, kb_236_0), (4, kb_236_4), (38, kb_236_38), (40, kb_236_40), (67, kb_236_67), (68, kb_236_68), (76, kb_236_76)]
def kb_237_0 : List pb_El := [(.aload_n 0, 1, 0, 0), (.iconst 0, 1, 0, 0), (.putfield 81, 3, 11, 0), (.aload_n 0, 1, 0, 0), (.iload_n 1, 1, 0, 0), (.invokevirtual 279, 3, 198, 2), (.ifCond .ne 5, 3, 15, 0), (.iconst (-1), 1, 1, 1), (.ireturn, 1, 0, 0)]
def kb_237_15 : List pb_El := [(.aload_n 0, 1, 0, 0), (.invokevirtual 273, 3, 208, 1), (.iconst 0, 1, 0, 0), (.istore_n 3, 1, 0, 0), (.iconst (-1), 1, 1, 1), (.istore 4, 2, 0, 0), (.iconst 0, 1, 0, 0), (.istore 5, 2, 0, 0)]
def kb_237_27 : List pb_El := [(.iload 5, 2, 0, 0), (.bipush 6, 2, 6, 0), (.if_icmp .ge 40, 3, 71, 0), (.aload_n 0, 1, 0, 0), (.iload 5, 2, 0, 0), (.invokevirtual 363, 3, 236, 2), (.istore 6, 2, 0, 0), (.iload 6, 2, 0, 0), (.iload 4, 2, 0, 0), (.if_icmp .le 8, 3, 54, 0), (.iload 5, 2, 0, 0), (.goto 4, 3, 55, 0)]
def kb_237_54 : List pb_El := [(.iload_n 3, 1, 0, 0)]
def kb_237_55 : List pb_El := [(.istore_n 3, 1, 0, 0), (.iload 4, 2, 0, 0), (.iload 6, 2, 0, 0), (.invokestatic 175, 3, 170, 2), (.istore 4, 2, 0, 0), (.iinc 5 1, 3, 1, 0), (.goto (-41), 3, 27, 0)]
def kb_237_71 : List pb_El := [(.iload_n 2, 1, 0, 0), (.ifCond .eq 8, 3, 80, 0), (.iload 4, 2, 0, 0), (.goto 4, 3, 81, 0)]
def kb_237_80 : List pb_El := [(.iload_n 3, 1, 0, 0)]
def kb_237_81 : List pb_El := [(.ireturn, 1, 0, 0)]
/-- PointedBenchModel.ban(IZ)I -/
def kc_237 : List (Nat × List pb_El) := [(0, kb_237_0), (15, kb_237_15), (27, kb_237_27), (54, kb_237_54), (55, kb_237_55), (71, kb_237_71), (80, kb_237_80), (81, kb_237_81)]
def kb_238_0 : List pb_El := [(.iconst 1, 1, 1, 0), (.istore_n 1, 1, 0, 0), (.iconst 0, 1, 0, 0), (.istore_n 2, 1, 0, 0)]
def kb_238_4 : List pb_El := [(.iload_n 2, 1, 0, 0), (.iload_n 0, 1, 0, 0), (.if_icmp .ge 14, 3, 20, 0), (.iload_n 1, 1, 0, 0), (.bipush 7, 2, 7, 0), (.imul, 1, 0, 0), (.istore_n 1, 1, 0, 0), (.iinc 2 1, 3, 1, 0), (.goto (-13), 3, 4, 0)]
def kb_238_20 : List pb_El := [(.iload_n 1, 1, 0, 0), (.ireturn, 1, 0, 0)]
/-- PointedBenchModel.sevens(I)I -/
def kc_238 : List (Nat × List pb_El) := [(0, kb_238_0), (4, kb_238_4), (20, kb_238_20)]
def kb_239_0 : List pb_El := [(.aload_n 0, 1, 0, 0), (.getfield 41, 3, 11, 30), (.iload_n 1, 1, 0, 0), (.aload_n 0, 1, 0, 0), (.bipush 8, 2, 8, 0), (.iload_n 1, 1, 0, 0), (.iadd, 1, 0, 0), (.invokevirtual 233, 3, 197, 2), (.iastore, 1, 0, 0), (.aload_n 0, 1, 0, 0), (.getfield 41, 3, 11, 30), (.iload_n 2, 1, 0, 0), (.aload_n 0, 1, 0, 0), (.bipush 8, 2, 8, 0), (.iload_n 2, 1, 0, 0), (.iadd, 1, 0, 0), (.invokevirtual 233, 3, 197, 2), (.iastore, 1, 0, 0), (.iload_n 3, 1, 0, 0), (.invokestatic 366, 3, 238, 1), (.istore 5, 2, 0, 0), (.iconst 0, 1, 0, 0), (.istore 6, 2, 0, 0)]
def kb_239_37 : List pb_El := [(.iload 6, 2, 0, 0), (.iload_n 3, 1, 0, 0), (.if_icmp .ge 90, 3, 130, 0), (.iload 5, 2, 0, 0), (.bipush 7, 2, 7, 0), (.idiv, 1, 0, 0), (.istore 5, 2, 0, 0), (.iload 4, 2, 0, 0), (.iload 5, 2, 0, 0), (.idiv, 1, 0, 0), (.bipush 7, 2, 7, 0), (.irem, 1, 0, 0), (.istore 7, 2, 0, 0), (.iload 6, 2, 0, 0), (.iconst 2, 1, 2, 0), (.irem, 1, 0, 0), (.ifCond .ne 7, 3, 71, 0), (.iload_n 1, 1, 0, 0), (.goto 4, 3, 72, 0)]
def kb_239_71 : List pb_El := [(.iload_n 2, 1, 0, 0)]
def kb_239_72 : List pb_El := [(.istore 8, 2, 0, 0), (.iload 7, 2, 0, 0), (.bipush 6, 2, 6, 0), (.if_icmp .ge 21, 3, 99, 0), (.aload_n 0, 1, 0, 0), (.getfield 41, 3, 11, 30), (.iload 8, 2, 0, 0), (.iaload, 1, 0, 0), (.iload 7, 2, 0, 0), (.invokestatic 85, 3, 169, 2), (.ifCond .eq 6, 3, 99, 0), (.bipush (-99), 2, 99, 1), (.ireturn, 1, 0, 0)]
def kb_239_99 : List pb_El := [(.aload_n 0, 1, 0, 0), (.getfield 41, 3, 11, 30), (.iload 8, 2, 0, 0), (.dup2, 1, 0, 0), (.iaload, 1, 0, 0), (.iload 7, 2, 0, 0), (.bipush 6, 2, 6, 0), (.if_icmp .ge 10, 3, 121, 0), (.iconst 1, 1, 1, 0), (.iload 7, 2, 0, 0), (.ishl, 1, 0, 0), (.goto 4, 3, 122, 0)]
def kb_239_121 : List pb_El := [(.iconst 0, 1, 0, 0)]
def kb_239_122 : List pb_El := [(.ior, 1, 0, 0), (.iastore, 1, 0, 0), (.iinc 6 1, 3, 1, 0), (.goto (-90), 3, 37, 0)]
def kb_239_130 : List pb_El := [(.aload_n 0, 1, 0, 0), (.invokevirtual 313, 3, 210, 1), (.istore 6, 2, 0, 0), (.iload 6, 2, 0, 0), (.iload_n 1, 1, 0, 0), (.if_icmp .ne 7, 3, 146, 0), (.iconst 1, 1, 1, 0), (.goto 14, 3, 157, 0)]
def kb_239_146 : List pb_El := [(.iload 6, 2, 0, 0), (.iload_n 2, 1, 0, 0), (.if_icmp .ne 7, 3, 156, 0), (.iconst (-1), 1, 1, 1), (.goto 4, 3, 157, 0)]
def kb_239_156 : List pb_El := [(.iconst 0, 1, 0, 0)]
def kb_239_157 : List pb_El := [(.ireturn, 1, 0, 0)]
/-- PointedBenchModel.endOf(IIII)I -/
def kc_239 : List (Nat × List pb_El) := [(0, kb_239_0), (37, kb_239_37), (71, kb_239_71), (72, kb_239_72), (99, kb_239_99), (121, kb_239_121), (122, kb_239_122), (130, kb_239_130), (146, kb_239_146), (156, kb_239_156), (157, kb_239_157)]
def kb_240_0 : List pb_El := [(.bipush (-99), 2, 99, 1), (.istore_n 3, 1, 0, 0), (.aload_n 0, 1, 0, 0), (.iconst (-1), 1, 1, 1), (.putfield 369, 3, 11, 38), (.iconst 0, 1, 0, 0), (.istore 4, 2, 0, 0)]
def kb_240_11 : List pb_El := [(.iload 4, 2, 0, 0), (.bipush 7, 2, 7, 0), (.if_icmp .ge 61, 3, 76, 0), (.aload_n 0, 1, 0, 0), (.getfield 59, 3, 11, 37), (.iload_n 1, 1, 0, 0), (.iload 4, 2, 0, 0), (.iadd, 1, 0, 0), (.iaload, 1, 0, 0), (.istore 5, 2, 0, 0), (.iload 5, 2, 0, 0), (.bipush (-99), 2, 99, 1), (.if_icmp .eq 37, 3, 70, 0), (.iload_n 3, 1, 0, 0), (.bipush (-99), 2, 99, 1), (.if_icmp .eq 22, 3, 61, 0), (.iload_n 2, 1, 0, 0), (.ifCond .eq 12, 3, 55, 0), (.iload 5, 2, 0, 0), (.iload_n 3, 1, 0, 0), (.if_icmp .le 21, 3, 70, 0), (.goto 9, 3, 61, 0)]
def kb_240_55 : List pb_El := [(.iload 5, 2, 0, 0), (.iload_n 3, 1, 0, 0), (.if_icmp .ge 12, 3, 70, 0)]
def kb_240_61 : List pb_El := [(.iload 5, 2, 0, 0), (.istore_n 3, 1, 0, 0), (.aload_n 0, 1, 0, 0), (.iload 4, 2, 0, 0), (.putfield 369, 3, 11, 38)]
def kb_240_70 : List pb_El := [(.iinc 4 1, 3, 1, 0), (.goto (-62), 3, 11, 0)]
def kb_240_76 : List pb_El := [(.iload_n 3, 1, 0, 0), (.ireturn, 1, 0, 0)]
/-- PointedBenchModel.fold(IZ)I -/
def kc_240 : List (Nat × List pb_El) := [(0, kb_240_0), (11, kb_240_11), (55, kb_240_55), (61, kb_240_61), (70, kb_240_70), (76, kb_240_76)]
def kb_241_0 : List pb_El := [(.aload_n 0, 1, 0, 0), (.iconst 0, 1, 0, 0), (.putfield 81, 3, 11, 0), (.iload 4, 2, 0, 0), (.iconst 0, 1, 0, 0), (.iconst 4, 1, 4, 0), (.invokestatic 93, 3, 168, 3), (.ifCond .eq 32, 3, 44, 0), (.aload_n 0, 1, 0, 0), (.iload_n 1, 1, 0, 0), (.invokevirtual 279, 3, 198, 2), (.ifCond .eq 24, 3, 44, 0), (.aload_n 0, 1, 0, 0), (.iload_n 2, 1, 0, 0), (.invokevirtual 300, 3, 200, 2), (.ifCond .eq 16, 3, 44, 0), (.aload_n 0, 1, 0, 0), (.iload_n 3, 1, 0, 0), (.invokevirtual 300, 3, 200, 2), (.ifCond .eq 8, 3, 44, 0), (.iload_n 2, 1, 0, 0), (.iload_n 3, 1, 0, 0), (.if_icmp .ne 6, 3, 47, 0)]
def kb_241_44 : List pb_El := [(.bipush (-9), 2, 9, 1), (.ireturn, 1, 0, 0)]
def kb_241_47 : List pb_El := [(.iload 4, 2, 0, 0), (.invokestatic 366, 3, 238, 1), (.istore 6, 2, 0, 0), (.iconst 0, 1, 0, 0), (.istore 7, 2, 0, 0)]
def kb_241_57 : List pb_El := [(.iload 7, 2, 0, 0), (.iload 6, 2, 0, 0), (.if_icmp .ge 26, 3, 87, 0), (.aload_n 0, 1, 0, 0), (.getfield 59, 3, 11, 37), (.iload 7, 2, 0, 0), (.aload_n 0, 1, 0, 0), (.iload_n 2, 1, 0, 0), (.iload_n 3, 1, 0, 0), (.iload 4, 2, 0, 0), (.iload 7, 2, 0, 0), (.invokevirtual 372, 3, 239, 5), (.iastore, 1, 0, 0), (.iinc 7 1, 3, 1, 0), (.goto (-27), 3, 57, 0)]
def kb_241_87 : List pb_El := [(.aload_n 0, 1, 0, 0), (.iconst (-1), 1, 1, 1), (.putfield 369, 3, 11, 38), (.iload 4, 2, 0, 0), (.iconst 1, 1, 1, 0), (.isub, 1, 0, 0), (.istore 7, 2, 0, 0)]
def kb_241_98 : List pb_El := [(.iload 7, 2, 0, 0), (.ifCond .lt 60, 3, 160, 0), (.iload 6, 2, 0, 0), (.bipush 7, 2, 7, 0), (.idiv, 1, 0, 0), (.istore 6, 2, 0, 0), (.iconst 0, 1, 0, 0), (.istore 8, 2, 0, 0)]
def kb_241_113 : List pb_El := [(.iload 8, 2, 0, 0), (.iload 6, 2, 0, 0), (.if_icmp .ge 37, 3, 154, 0), (.aload_n 0, 1, 0, 0), (.getfield 59, 3, 11, 37), (.iload 8, 2, 0, 0), (.aload_n 0, 1, 0, 0), (.bipush 7, 2, 7, 0), (.iload 8, 2, 0, 0), (.imul, 1, 0, 0), (.iload 7, 2, 0, 0), (.iconst 2, 1, 2, 0), (.irem, 1, 0, 0), (.ifCond .ne 7, 3, 143, 0), (.iconst 1, 1, 1, 0), (.goto 4, 3, 144, 0)]
def kb_241_143 : List pb_El := [(.iconst 0, 1, 0, 0)]
def kb_241_144 : List pb_El := [(.invokevirtual 376, 3, 240, 3), (.iastore, 1, 0, 0), (.iinc 8 1, 3, 1, 0), (.goto (-38), 3, 113, 0)]
def kb_241_154 : List pb_El := [(.iinc 7 (-1), 3, 1, 1), (.goto (-59), 3, 98, 0)]
def kb_241_160 : List pb_El := [(.iload 5, 2, 0, 0), (.ifCond .eq 10, 3, 172, 0), (.aload_n 0, 1, 0, 0), (.getfield 369, 3, 11, 38), (.goto 9, 3, 178, 0)]
def kb_241_172 : List pb_El := [(.aload_n 0, 1, 0, 0), (.getfield 59, 3, 11, 37), (.iconst 0, 1, 0, 0), (.iaload, 1, 0, 0)]
def kb_241_178 : List pb_El := [(.ireturn, 1, 0, 0)]
/-- PointedBenchModel.rivals(IIIIZ)I -/
def kc_241 : List (Nat × List pb_El) := [(0, kb_241_0), (44, kb_241_44), (47, kb_241_47), (57, kb_241_57), (87, kb_241_87), (98, kb_241_98), (113, kb_241_113), (143, kb_241_143), (144, kb_241_144), (154, kb_241_154), (160, kb_241_160), (172, kb_241_172), (178, kb_241_178)]
def kb_242_0 : List pb_El := [(.aload_n 0, 1, 0, 0), (.iconst 0, 1, 0, 0), (.putfield 81, 3, 11, 0), (.iload_n 3, 1, 0, 0), (.iconst 1, 1, 1, 0), (.iconst 3, 1, 3, 0), (.invokestatic 93, 3, 168, 3), (.ifCond .eq 19, 3, 30, 0), (.aload_n 0, 1, 0, 0), (.iload_n 1, 1, 0, 0), (.invokevirtual 279, 3, 198, 2), (.ifCond .eq 11, 3, 30, 0), (.aload_n 0, 1, 0, 0), (.iload_n 2, 1, 0, 0), (.invokevirtual 300, 3, 200, 2), (.ifCond .ne 7, 3, 34, 0)]
def kb_242_30 : List pb_El := [(.ldc2_w 351, 3, 0, 0), (.lreturn, 1, 0, 0)]
def kb_242_34 : List pb_El := [(.iconst 0, 1, 0, 0), (.istore 6, 2, 0, 0), (.iconst 0, 1, 0, 0), (.istore 7, 2, 0, 0)]
def kb_242_40 : List pb_El := [(.iload 7, 2, 0, 0), (.aload_n 0, 1, 0, 0), (.getfield 240, 3, 11, 25), (.if_icmp .ge 29, 3, 75, 0), (.iload 6, 2, 0, 0), (.aload_n 0, 1, 0, 0), (.getfield 47, 3, 11, 32), (.iload 7, 2, 0, 0), (.iaload, 1, 0, 0), (.ifCond .le 7, 3, 65, 0), (.iconst 1, 1, 1, 0), (.goto 4, 3, 66, 0)]
def kb_242_65 : List pb_El := [(.iconst 0, 1, 0, 0)]
def kb_242_66 : List pb_El := [(.iadd, 1, 0, 0), (.istore 6, 2, 0, 0), (.iinc 7 1, 3, 1, 0), (.goto (-32), 3, 40, 0)]
def kb_242_75 : List pb_El := [(.aload_n 0, 1, 0, 0), (.iconst 2, 1, 2, 0), (.iload_n 2, 1, 0, 0), (.iadd, 1, 0, 0), (.invokevirtual 233, 3, 197, 2), (.istore 7, 2, 0, 0), (.iload 4, 2, 0, 0), (.ifCond .ne 29, 3, 115, 0), (.ldc2_w 379, 3, 1, 0), (.iload 7, 2, 0, 0), (.i2l, 1, 0, 0), (.lsub, 1, 0, 0), (.iload 6, 2, 0, 0), (.invokestatic 355, 3, 234, 2), (.ldc2_w 379, 3, 1, 0), (.iload 6, 2, 0, 0), (.invokestatic 355, 3, 234, 2), (.iload 5, 2, 0, 0), (.invokestatic 359, 3, 233, 3), (.lreturn, 1, 0, 0)]
def kb_242_115 : List pb_El := [(.ldc2_w 379, 3, 1, 0), (.iload_n 3, 1, 0, 0), (.invokestatic 355, 3, 234, 2), (.ldc2_w 379, 3, 1, 0), (.iload 7, 2, 0, 0), (.i2l, 1, 0, 0), (.lsub, 1, 0, 0), (.iload_n 3, 1, 0, 0), (.invokestatic 355, 3, 234, 2), (.lsub, 1, 0, 0), (.iload 6, 2, 0, 0), (.invokestatic 355, 3, 234, 2), (.ldc2_w 379, 3, 1, 0), (.iload_n 3, 1, 0, 0), (.iload 6, 2, 0, 0), (.imul, 1, 0, 0), (.invokestatic 355, 3, 234, 2), (.iload 5, 2, 0, 0), (.invokestatic 359, 3, 233, 3), (.lreturn, 1, 0, 0)]
/-- PointedBenchModel.quiet(IIIZZ)J -/
def kc_242 : List (Nat × List pb_El) := [(0, kb_242_0), (30, kb_242_30), (34, kb_242_34), (40, kb_242_40), (65, kb_242_65), (66, kb_242_66), (75, kb_242_75), (115, kb_242_115)]
def kb_243_0 : List pb_El := [(.aload_n 0, 1, 0, 0), (.getfield 32, 3, 11, 8), (.bipush 25, 2, 25, 0), (.aload_n 0, 1, 0, 0), (.getfield 381, 3, 11, 39), (.imul, 1, 0, 0), (.iconst 1, 1, 1, 0), (.iadd, 1, 0, 0), (.iconst 3, 1, 3, 0), (.iload_n 1, 1, 0, 0), (.imul, 1, 0, 0), (.iadd, 1, 0, 0), (.iload_n 2, 1, 0, 0), (.iadd, 1, 0, 0), (.iaload, 1, 0, 0), (.ireturn, 1, 0, 0)]
/-- PointedBenchModel.factOf(II)I -/
def kc_243 : List (Nat × List pb_El) := [(0, kb_243_0)]
def kb_244_0 : List pb_El := [(.aload_n 0, 1, 0, 0), (.getfield 32, 3, 11, 8), (.bipush 25, 2, 25, 0), (.aload_n 0, 1, 0, 0), (.getfield 381, 3, 11, 39), (.imul, 1, 0, 0), (.iaload, 1, 0, 0), (.ireturn, 1, 0, 0)]
/-- PointedBenchModel.facts()I -/
def kc_244 : List (Nat × List pb_El) := [(0, kb_244_0)]
def kb_245_0 : List pb_El := [(.aload_n 0, 1, 0, 0), (.iload_n 1, 1, 0, 0), (.putfield 381, 3, 11, 39), (.aload_n 0, 1, 0, 0), (.iconst 2, 1, 2, 0), (.iload_n 1, 1, 0, 0), (.invokevirtual 220, 3, 175, 3), (.ireturn, 1, 0, 0)]
/-- PointedBenchModel.hasLog(I)Z -/
def kc_245 : List (Nat × List pb_El) := [(0, kb_245_0)]
def kb_246_0 : List pb_El := [(.aload_n 0, 1, 0, 0), (.iconst 0, 1, 0, 0), (.putfield 81, 3, 11, 0), (.aload_n 0, 1, 0, 0), (.iload_n 1, 1, 0, 0), (.invokevirtual 384, 3, 245, 2), (.ifCond .ne 6, 3, 16, 0), (.bipush (-2), 2, 2, 1), (.ireturn, 1, 0, 0)]
def kb_246_16 : List pb_El := [(.iload_n 2, 1, 0, 0), (.iconst (-1), 1, 1, 1), (.if_icmp .ne 17, 3, 35, 0), (.iload_n 3, 1, 0, 0), (.ifCond .ne 10, 3, 32, 0), (.aload_n 0, 1, 0, 0), (.invokevirtual 387, 3, 244, 1), (.goto 5, 3, 34, 0)]
def kb_246_32 : List pb_El := [(.bipush (-2), 2, 2, 1)]
def kb_246_34 : List pb_El := [(.ireturn, 1, 0, 0)]
def kb_246_35 : List pb_El := [(.iload_n 2, 1, 0, 0), (.iconst 0, 1, 0, 0), (.aload_n 0, 1, 0, 0), (.invokevirtual 387, 3, 244, 1), (.iconst 1, 1, 1, 0), (.isub, 1, 0, 0), (.invokestatic 93, 3, 168, 3), (.ifCond .eq 21, 3, 67, 0), (.iload_n 3, 1, 0, 0), (.iconst 0, 1, 0, 0), (.iconst 2, 1, 2, 0), (.invokestatic 93, 3, 168, 3), (.ifCond .eq 12, 3, 67, 0), (.aload_n 0, 1, 0, 0), (.iload_n 2, 1, 0, 0), (.iload_n 3, 1, 0, 0), (.invokevirtual 390, 3, 243, 3), (.goto 5, 3, 69, 0)]
def kb_246_67 : List pb_El := [(.bipush (-2), 2, 2, 1)]
def kb_246_69 : List pb_El := [(.ireturn, 1, 0, 0)]
/-- PointedBenchModel.fact(III)I -/
def kc_246 : List (Nat × List pb_El) := [(0, kb_246_0), (16, kb_246_16), (32, kb_246_32), (34, kb_246_34), (35, kb_246_35), (67, kb_246_67), (69, kb_246_69)]
def kb_247_0 : List pb_El := [(.iload_n 0, 1, 0, 0), (.istore_n 2, 1, 0, 0), (.iconst 5, 1, 5, 0), (.istore_n 3, 1, 0, 0)]
def kb_247_4 : List pb_El := [(.iload_n 3, 1, 0, 0), (.iload_n 1, 1, 0, 0), (.if_icmp .le 13, 3, 19, 0), (.iload_n 2, 1, 0, 0), (.iconst 3, 1, 3, 0), (.idiv, 1, 0, 0), (.istore_n 2, 1, 0, 0), (.iinc 3 (-1), 3, 1, 1), (.goto (-12), 3, 4, 0)]
def kb_247_19 : List pb_El := [(.iload_n 2, 1, 0, 0), (.iconst 3, 1, 3, 0), (.irem, 1, 0, 0), (.ireturn, 1, 0, 0)]
/-- PointedBenchModel.likingOf(II)I -/
def kc_247 : List (Nat × List pb_El) := [(0, kb_247_0), (4, kb_247_4), (19, kb_247_19)]
def kb_248_0 : List pb_El := [(.iconst 0, 1, 0, 0), (.istore_n 2, 1, 0, 0), (.iconst 0, 1, 0, 0), (.istore_n 3, 1, 0, 0)]
def kb_248_4 : List pb_El := [(.iload_n 3, 1, 0, 0), (.bipush 6, 2, 6, 0), (.if_icmp .ge 29, 3, 36, 0), (.iload_n 2, 1, 0, 0), (.iload_n 1, 1, 0, 0), (.iload_n 3, 1, 0, 0), (.invokestatic 85, 3, 169, 2), (.ifCond .eq 11, 3, 27, 0), (.iload_n 0, 1, 0, 0), (.iload_n 3, 1, 0, 0), (.invokestatic 393, 3, 247, 2), (.goto 4, 3, 28, 0)]
def kb_248_27 : List pb_El := [(.iconst 0, 1, 0, 0)]
def kb_248_28 : List pb_El := [(.iadd, 1, 0, 0), (.istore_n 2, 1, 0, 0), (.iinc 3 1, 3, 1, 0), (.goto (-29), 3, 4, 0)]
def kb_248_36 : List pb_El := [(.iload_n 2, 1, 0, 0), (.ireturn, 1, 0, 0)]
/-- PointedBenchModel.likingsOf(II)I -/
def kc_248 : List (Nat × List pb_El) := [(0, kb_248_0), (4, kb_248_4), (27, kb_248_27), (28, kb_248_28), (36, kb_248_36)]
def kb_249_0 : List pb_El := [(.iload_n 0, 1, 0, 0), (.iload_n 1, 1, 0, 0), (.invokestatic 396, 3, 248, 2), (.iload_n 0, 1, 0, 0), (.iload_n 2, 1, 0, 0), (.invokestatic 396, 3, 248, 2), (.if_icmp .le 7, 3, 17, 0), (.iconst 1, 1, 1, 0), (.goto 4, 3, 18, 0)]
def kb_249_17 : List pb_El := [(.iconst 0, 1, 0, 0)]
def kb_249_18 : List pb_El := [(.ireturn, 1, 0, 0)]
/-- PointedBenchModel.prefers(III)Z -/
def kc_249 : List (Nat × List pb_El) := [(0, kb_249_0), (17, kb_249_17), (18, kb_249_18)]
def kb_250_0 : List pb_El := [(.iconst 1, 1, 1, 0), (.istore_n 2, 1, 0, 0), (.iconst 0, 1, 0, 0), (.istore_n 3, 1, 0, 0)]
def kb_250_4 : List pb_El := [(.iload_n 3, 1, 0, 0), (.aload_n 0, 1, 0, 0), (.invokevirtual 387, 3, 244, 1), (.if_icmp .ge 52, 3, 61, 0), (.iload_n 2, 1, 0, 0), (.ifCond .eq 48, 3, 61, 0), (.iload_n 1, 1, 0, 0), (.aload_n 0, 1, 0, 0), (.iload_n 3, 1, 0, 0), (.iconst 1, 1, 1, 0), (.invokevirtual 390, 3, 243, 3), (.aload_n 0, 1, 0, 0), (.iload_n 3, 1, 0, 0), (.iconst 2, 1, 2, 0), (.invokevirtual 390, 3, 243, 3), (.invokestatic 399, 3, 249, 3), (.aload_n 0, 1, 0, 0), (.iload_n 3, 1, 0, 0), (.iconst 0, 1, 0, 0), (.invokevirtual 390, 3, 243, 3), (.ifCond .ne 7, 3, 45, 0), (.iconst 1, 1, 1, 0), (.goto 4, 3, 46, 0)]
def kb_250_45 : List pb_El := [(.iconst 0, 1, 0, 0)]
def kb_250_46 : List pb_El := [(.if_icmp .ne 7, 3, 53, 0), (.iconst 1, 1, 1, 0), (.goto 4, 3, 54, 0)]
def kb_250_53 : List pb_El := [(.iconst 0, 1, 0, 0)]
def kb_250_54 : List pb_El := [(.istore_n 2, 1, 0, 0), (.iinc 3 1, 3, 1, 0), (.goto (-54), 3, 4, 0)]
def kb_250_61 : List pb_El := [(.iload_n 2, 1, 0, 0), (.ireturn, 1, 0, 0)]
/-- PointedBenchModel.isFit(I)Z -/
def kc_250 : List (Nat × List pb_El) := [(0, kb_250_0), (4, kb_250_4), (45, kb_250_45), (46, kb_250_46), (53, kb_250_53), (54, kb_250_54), (61, kb_250_61)]
def kb_251_0 : List pb_El := [(.aload_n 0, 1, 0, 0), (.iload_n 1, 1, 0, 0), (.invokevirtual 384, 3, 245, 2), (.ifCond .ne 5, 3, 10, 0), (.iconst 0, 1, 0, 0), (.ireturn, 1, 0, 0)]
def kb_251_10 : List pb_El := [(.aload_n 0, 1, 0, 0), (.iconst 0, 1, 0, 0), (.putfield 402, 3, 11, 41), (.iconst 0, 1, 0, 0), (.istore_n 2, 1, 0, 0)]
def kb_251_17 : List pb_El := [(.iload_n 2, 1, 0, 0), (.sipush 729, 3, 729, 0), (.if_icmp .ge 37, 3, 58, 0), (.aload_n 0, 1, 0, 0), (.iload_n 2, 1, 0, 0), (.invokevirtual 405, 3, 250, 2), (.ifCond .eq 23, 3, 52, 0), (.aload_n 0, 1, 0, 0), (.getfield 62, 3, 11, 40), (.aload_n 0, 1, 0, 0), (.getfield 402, 3, 11, 41), (.iload_n 2, 1, 0, 0), (.iastore, 1, 0, 0), (.aload_n 0, 1, 0, 0), (.dup, 1, 0, 0), (.getfield 402, 3, 11, 41), (.iconst 1, 1, 1, 0), (.iadd, 1, 0, 0), (.putfield 402, 3, 11, 41)]
def kb_251_52 : List pb_El := [(.iinc 2 1, 3, 1, 0), (.goto (-38), 3, 17, 0)]
def kb_251_58 : List pb_El := [(.iconst 1, 1, 1, 0), (.ireturn, 1, 0, 0)]
/-- PointedBenchModel.layLog(I)Z -/
def kc_251 : List (Nat × List pb_El) := [(0, kb_251_0), (10, kb_251_10), (17, kb_251_17), (52, kb_251_52), (58, kb_251_58)]
def kb_252_0 : List pb_El := [(.iconst 0, 1, 0, 0), (.istore_n 3, 1, 0, 0), (.iconst 0, 1, 0, 0), (.istore 4, 2, 0, 0)]
def kb_252_5 : List pb_El := [(.iload 4, 2, 0, 0), (.aload_n 0, 1, 0, 0), (.getfield 402, 3, 11, 41), (.if_icmp .ge 32, 3, 43, 0), (.iload_n 3, 1, 0, 0), (.aload_n 0, 1, 0, 0), (.getfield 62, 3, 11, 40), (.iload 4, 2, 0, 0), (.iaload, 1, 0, 0), (.iload_n 1, 1, 0, 0), (.iload_n 2, 1, 0, 0), (.invokestatic 399, 3, 249, 3), (.ifCond .eq 7, 3, 34, 0), (.iconst 1, 1, 1, 0), (.goto 4, 3, 35, 0)]
def kb_252_34 : List pb_El := [(.iconst 0, 1, 0, 0)]
def kb_252_35 : List pb_El := [(.iadd, 1, 0, 0), (.istore_n 3, 1, 0, 0), (.iinc 4 1, 3, 1, 0), (.goto (-35), 3, 5, 0)]
def kb_252_43 : List pb_El := [(.iload_n 3, 1, 0, 0), (.ireturn, 1, 0, 0)]
/-- PointedBenchModel.manyPrefer(II)I -/
def kc_252 : List (Nat × List pb_El) := [(0, kb_252_0), (5, kb_252_5), (34, kb_252_34), (35, kb_252_35), (43, kb_252_43)]
def kb_253_0 : List pb_El := [(.iconst (-1), 1, 1, 1), (.istore_n 1, 1, 0, 0), (.ldc_w 408, 3, 1, 0), (.istore_n 2, 1, 0, 0), (.iconst 0, 1, 0, 0), (.istore_n 3, 1, 0, 0)]
def kb_253_8 : List pb_El := [(.iload_n 3, 1, 0, 0), (.bipush 6, 2, 6, 0), (.if_icmp .ge 82, 3, 93, 0), (.aload_n 0, 1, 0, 0), (.getfield 402, 3, 11, 41), (.ifCond .le 75, 3, 93, 0), (.iconst 0, 1, 0, 0), (.istore 4, 2, 0, 0)]
def kb_253_24 : List pb_El := [(.iload 4, 2, 0, 0), (.bipush 6, 2, 6, 0), (.if_icmp .ge 59, 3, 87, 0), (.aload_n 0, 1, 0, 0), (.iconst 1, 1, 1, 0), (.iload_n 3, 1, 0, 0), (.ishl, 1, 0, 0), (.iconst 1, 1, 1, 0), (.iload 4, 2, 0, 0), (.ishl, 1, 0, 0), (.invokevirtual 409, 3, 252, 3), (.istore 5, 2, 0, 0), (.iload 5, 2, 0, 0), (.aload_n 0, 1, 0, 0), (.getfield 402, 3, 11, 41), (.iload 5, 2, 0, 0), (.isub, 1, 0, 0), (.invokestatic 175, 3, 170, 2), (.istore 6, 2, 0, 0), (.iload_n 3, 1, 0, 0), (.iload 4, 2, 0, 0), (.if_icmp .eq 20, 3, 81, 0), (.iload 6, 2, 0, 0), (.iload_n 2, 1, 0, 0), (.if_icmp .ge 14, 3, 81, 0), (.bipush 10, 2, 10, 0), (.iload_n 3, 1, 0, 0), (.imul, 1, 0, 0), (.iload 4, 2, 0, 0), (.iadd, 1, 0, 0), (.istore_n 1, 1, 0, 0), (.iload 6, 2, 0, 0), (.istore_n 2, 1, 0, 0)]
def kb_253_81 : List pb_El := [(.iinc 4 1, 3, 1, 0), (.goto (-60), 3, 24, 0)]
def kb_253_87 : List pb_El := [(.iinc 3 1, 3, 1, 0), (.goto (-82), 3, 8, 0)]
def kb_253_93 : List pb_El := [(.iload_n 1, 1, 0, 0), (.ireturn, 1, 0, 0)]
/-- PointedBenchModel.ask()I -/
def kc_253 : List (Nat × List pb_El) := [(0, kb_253_0), (8, kb_253_8), (24, kb_253_24), (81, kb_253_81), (87, kb_253_87), (93, kb_253_93)]
def kb_254_0 : List pb_El := [(.aload_n 0, 1, 0, 0), (.getfield 402, 3, 11, 41), (.ifCond .ne 7, 3, 11, 0), (.iconst (-1), 1, 1, 1), (.goto 13, 3, 21, 0)]
def kb_254_11 : List pb_El := [(.aload_n 0, 1, 0, 0), (.getfield 62, 3, 11, 40), (.iconst 0, 1, 0, 0), (.iaload, 1, 0, 0), (.iload_n 1, 1, 0, 0), (.invokestatic 393, 3, 247, 2)]
def kb_254_21 : List pb_El := [(.istore_n 2, 1, 0, 0), (.iconst 0, 1, 0, 0), (.istore_n 3, 1, 0, 0)]
def kb_254_24 : List pb_El := [(.iload_n 3, 1, 0, 0), (.aload_n 0, 1, 0, 0), (.getfield 402, 3, 11, 41), (.if_icmp .ge 29, 3, 58, 0), (.aload_n 0, 1, 0, 0), (.getfield 62, 3, 11, 40), (.iload_n 3, 1, 0, 0), (.iaload, 1, 0, 0), (.iload_n 1, 1, 0, 0), (.invokestatic 393, 3, 247, 2), (.iload_n 2, 1, 0, 0), (.if_icmp .ne 7, 3, 50, 0), (.iload_n 2, 1, 0, 0), (.goto 4, 3, 51, 0)]
def kb_254_50 : List pb_El := [(.iconst (-1), 1, 1, 1)]
def kb_254_51 : List pb_El := [(.istore_n 2, 1, 0, 0), (.iinc 3 1, 3, 1, 0), (.goto (-31), 3, 24, 0)]
def kb_254_58 : List pb_El := [(.iload_n 2, 1, 0, 0), (.ireturn, 1, 0, 0)]
/-- PointedBenchModel.sure(I)I -/
def kc_254 : List (Nat × List pb_El) := [(0, kb_254_0), (11, kb_254_11), (21, kb_254_21), (24, kb_254_24), (50, kb_254_50), (51, kb_254_51), (58, kb_254_58)]
def kb_255_0 : List pb_El := [(.aload_n 0, 1, 0, 0), (.iconst 0, 1, 0, 0), (.putfield 81, 3, 11, 0), (.aload_n 0, 1, 0, 0), (.iload_n 1, 1, 0, 0), (.invokevirtual 412, 3, 251, 2), (.ifCond .ne 6, 3, 16, 0), (.bipush (-2), 2, 2, 1), (.ireturn, 1, 0, 0)]
def kb_255_16 : List pb_El := [(.iload_n 2, 1, 0, 0), (.bipush 10, 2, 10, 0), (.if_icmp .lt 29, 3, 48, 0), (.iload_n 2, 1, 0, 0), (.bipush 10, 2, 10, 0), (.isub, 1, 0, 0), (.aload_n 0, 1, 0, 0), (.getfield 402, 3, 11, 41), (.if_icmp .ge 15, 3, 45, 0), (.aload_n 0, 1, 0, 0), (.getfield 62, 3, 11, 40), (.iload_n 2, 1, 0, 0), (.bipush 10, 2, 10, 0), (.isub, 1, 0, 0), (.iaload, 1, 0, 0), (.goto 5, 3, 47, 0)]
def kb_255_45 : List pb_El := [(.bipush (-2), 2, 2, 1)]
def kb_255_47 : List pb_El := [(.ireturn, 1, 0, 0)]
def kb_255_48 : List pb_El := [(.iload_n 2, 1, 0, 0), (.iconst 2, 1, 2, 0), (.bipush 7, 2, 7, 0), (.invokestatic 93, 3, 168, 3), (.ifCond .eq 11, 3, 66, 0), (.aload_n 0, 1, 0, 0), (.iload_n 2, 1, 0, 0), (.iconst 2, 1, 2, 0), (.isub, 1, 0, 0), (.invokevirtual 415, 3, 254, 2), (.ireturn, 1, 0, 0)]
def kb_255_66 : List pb_El := [(.iload_n 2, 1, 0, 0), (.ifCond .ne 10, 3, 77, 0), (.aload_n 0, 1, 0, 0), (.getfield 402, 3, 11, 41), (.goto 17, 3, 91, 0)]
def kb_255_77 : List pb_El := [(.iload_n 2, 1, 0, 0), (.iconst 1, 1, 1, 0), (.if_icmp .ne 10, 3, 89, 0), (.aload_n 0, 1, 0, 0), (.invokevirtual 418, 3, 253, 1), (.goto 5, 3, 91, 0)]
def kb_255_89 : List pb_El := [(.bipush (-2), 2, 2, 1)]
def kb_255_91 : List pb_El := [(.ireturn, 1, 0, 0)]
/-- PointedBenchModel.fits(II)I -/
def kc_255 : List (Nat × List pb_El) := [(0, kb_255_0), (16, kb_255_16), (45, kb_255_45), (47, kb_255_47), (48, kb_255_48), (66, kb_255_66), (77, kb_255_77), (89, kb_255_89), (91, kb_255_91)]
def kb_256_0 : List pb_El := [(.aload_n 0, 1, 0, 0), (.aload_n 0, 1, 0, 0), (.getfield 421, 3, 11, 42), (.ldc_w 424, 3, 0, 0), (.imul, 1, 0, 0), (.sipush 12345, 3, 12345, 0), (.iadd, 1, 0, 0), (.putfield 421, 3, 11, 42), (.aload_n 0, 1, 0, 0), (.getfield 421, 3, 11, 42), (.bipush 16, 2, 16, 0), (.iushr, 1, 0, 0), (.iload_n 1, 1, 0, 0), (.irem, 1, 0, 0), (.ireturn, 1, 0, 0)]
/-- PointedBenchModel.draw(I)I -/
def kc_256 : List (Nat × List pb_El) := [(0, kb_256_0)]
def kb_257_0 : List pb_El := [(.aload_n 0, 1, 0, 0), (.bipush 10, 2, 10, 0), (.invokevirtual 425, 3, 256, 2), (.istore_n 1, 1, 0, 0), (.iload_n 1, 1, 0, 0), (.iconst 5, 1, 5, 0), (.if_icmp .le 26, 3, 35, 0), (.aload_n 0, 1, 0, 0), (.iload_n 1, 1, 0, 0), (.bipush 7, 2, 7, 0), (.if_icmp .le 8, 3, 24, 0), (.bipush 6, 2, 6, 0), (.goto 4, 3, 25, 0)]
def kb_257_24 : List pb_El := [(.iconst 5, 1, 5, 0)]
def kb_257_25 : List pb_El := [(.iconst (-1), 1, 1, 1), (.iconst (-1), 1, 1, 1), (.iconst (-1), 1, 1, 1), (.invokevirtual 319, 3, 220, 5), (.pop, 1, 0, 0), (.goto 124, 3, 156, 0)]
def kb_257_35 : List pb_El := [(.iload_n 1, 1, 0, 0), (.iconst 3, 1, 3, 0), (.if_icmp .ge 45, 3, 82, 0), (.aload_n 0, 1, 0, 0), (.getfield 237, 3, 11, 24), (.ifCond .le 112, 3, 156, 0), (.aload_n 0, 1, 0, 0), (.aload_n 0, 1, 0, 0), (.getfield 237, 3, 11, 24), (.invokevirtual 425, 3, 256, 2), (.istore_n 2, 1, 0, 0), (.aload_n 0, 1, 0, 0), (.iload_n 1, 1, 0, 0), (.iconst 2, 1, 2, 0), (.if_icmp .ne 7, 3, 66, 0), (.iconst 1, 1, 1, 0), (.goto 4, 3, 67, 0)]
def kb_257_66 : List pb_El := [(.iconst 0, 1, 0, 0)]
def kb_257_67 : List pb_El := [(.iload_n 2, 1, 0, 0), (.aload_n 0, 1, 0, 0), (.bipush 6, 2, 6, 0), (.invokevirtual 425, 3, 256, 2), (.iconst (-1), 1, 1, 1), (.invokevirtual 319, 3, 220, 5), (.pop, 1, 0, 0), (.goto 77, 3, 156, 0)]
def kb_257_82 : List pb_El := [(.aload_n 0, 1, 0, 0), (.getfield 240, 3, 11, 25), (.ifCond .le 70, 3, 156, 0), (.aload_n 0, 1, 0, 0), (.aload_n 0, 1, 0, 0), (.getfield 240, 3, 11, 25), (.invokevirtual 425, 3, 256, 2), (.istore_n 2, 1, 0, 0), (.iload_n 1, 1, 0, 0), (.iconst 5, 1, 5, 0), (.if_icmp .ge 12, 3, 112, 0), (.aload_n 0, 1, 0, 0), (.bipush 6, 2, 6, 0), (.invokevirtual 425, 3, 256, 2), (.goto 4, 3, 113, 0)]
def kb_257_112 : List pb_El := [(.iconst (-1), 1, 1, 1)]
def kb_257_113 : List pb_El := [(.istore_n 3, 1, 0, 0), (.aload_n 0, 1, 0, 0), (.iload_n 1, 1, 0, 0), (.iconst 3, 1, 3, 0), (.if_icmp .ne 7, 3, 124, 0), (.iconst 2, 1, 2, 0), (.goto 13, 3, 134, 0)]
def kb_257_124 : List pb_El := [(.iload_n 1, 1, 0, 0), (.iconst 4, 1, 4, 0), (.if_icmp .ne 7, 3, 133, 0), (.iconst 3, 1, 3, 0), (.goto 4, 3, 134, 0)]
def kb_257_133 : List pb_El := [(.iconst 4, 1, 4, 0)]
def kb_257_134 : List pb_El := [(.iload_n 2, 1, 0, 0), (.iload_n 3, 1, 0, 0), (.iload_n 1, 1, 0, 0), (.iconst 4, 1, 4, 0), (.if_icmp .ne 13, 3, 151, 0), (.iconst 1, 1, 1, 0), (.aload_n 0, 1, 0, 0), (.iconst 3, 1, 3, 0), (.invokevirtual 425, 3, 256, 2), (.iadd, 1, 0, 0), (.goto 4, 3, 152, 0)]
def kb_257_151 : List pb_El := [(.iconst (-1), 1, 1, 1)]
def kb_257_152 : List pb_El := [(.invokevirtual 319, 3, 220, 5), (.pop, 1, 0, 0)]
def kb_257_156 : List pb_El := [(.return_, 1, 0, 0)]
/-- PointedBenchModel.drawDeed()V -/
def kc_257 : List (Nat × List pb_El) := [(0, kb_257_0), (24, kb_257_24), (25, kb_257_25), (35, kb_257_35), (66, kb_257_66), (67, kb_257_67), (82, kb_257_82), (112, kb_257_112), (113, kb_257_113), (124, kb_257_124), (133, kb_257_133), (134, kb_257_134), (151, kb_257_151), (152, kb_257_152), (156, kb_257_156)]
def kb_258_0 : List pb_El := [(.aload_n 0, 1, 0, 0), (.iconst 0, 1, 0, 0), (.putfield 81, 3, 11, 0), (.iload_n 3, 1, 0, 0), (.iconst 0, 1, 0, 0), (.bipush 60, 2, 60, 0), (.invokestatic 93, 3, 168, 3), (.ifCond .eq 11, 3, 23, 0), (.aload_n 0, 1, 0, 0), (.iload_n 1, 1, 0, 0), (.invokevirtual 279, 3, 198, 2), (.ifCond .ne 5, 3, 25, 0)]
def kb_258_23 : List pb_El := [(.iconst (-1), 1, 1, 1), (.ireturn, 1, 0, 0)]
def kb_258_25 : List pb_El := [(.aload_n 0, 1, 0, 0), (.iload_n 2, 1, 0, 0), (.putfield 421, 3, 11, 42), (.iconst 0, 1, 0, 0), (.istore 5, 2, 0, 0)]
def kb_258_33 : List pb_El := [(.iload 5, 2, 0, 0), (.iload_n 3, 1, 0, 0), (.if_icmp .ge 13, 3, 49, 0), (.aload_n 0, 1, 0, 0), (.invokevirtual 428, 3, 257, 1), (.iinc 5 1, 3, 1, 0), (.goto (-13), 3, 33, 0)]
def kb_258_49 : List pb_El := [(.aload_n 0, 1, 0, 0), (.iload 4, 2, 0, 0), (.invokevirtual 337, 3, 226, 2), (.ireturn, 1, 0, 0)]
/-- PointedBenchModel.drawn(IIII)I -/
def kc_258 : List (Nat × List pb_El) := [(0, kb_258_0), (23, kb_258_23), (25, kb_258_25), (33, kb_258_33), (49, kb_258_49)]
def kb_259_0 : List pb_El := [(.aload_n 0, 1, 0, 0), (.iload_n 1, 1, 0, 0), (.iload_n 2, 1, 0, 0), (.invokevirtual 264, 3, 205, 3), (.ifCond .ne 41, 3, 47, 0), (.aload_n 0, 1, 0, 0), (.iload_n 1, 1, 0, 0), (.iload_n 3, 1, 0, 0), (.invokevirtual 264, 3, 205, 3), (.ifCond .ne 28, 3, 43, 0), (.aload_n 0, 1, 0, 0), (.iload_n 1, 1, 0, 0), (.aload_n 0, 1, 0, 0), (.getfield 41, 3, 11, 30), (.iload_n 2, 1, 0, 0), (.iaload, 1, 0, 0), (.invokevirtual 261, 3, 204, 3), (.aload_n 0, 1, 0, 0), (.iload_n 1, 1, 0, 0), (.aload_n 0, 1, 0, 0), (.getfield 41, 3, 11, 30), (.iload_n 3, 1, 0, 0), (.iaload, 1, 0, 0), (.invokevirtual 261, 3, 204, 3), (.if_icmp .le 7, 3, 47, 0)]
def kb_259_43 : List pb_El := [(.iconst 1, 1, 1, 0), (.goto 4, 3, 48, 0)]
def kb_259_47 : List pb_El := [(.iconst 0, 1, 0, 0)]
def kb_259_48 : List pb_El := [(.ireturn, 1, 0, 0)]
/-- PointedBenchModel.puts(III)Z -/
def kc_259 : List (Nat × List pb_El) := [(0, kb_259_0), (43, kb_259_43), (47, kb_259_47), (48, kb_259_48)]
def kb_260_0 : List pb_El := [(.iconst 0, 1, 0, 0), (.istore_n 3, 1, 0, 0), (.iconst 0, 1, 0, 0), (.istore 4, 2, 0, 0)]
def kb_260_5 : List pb_El := [(.iload 4, 2, 0, 0), (.aload_n 0, 1, 0, 0), (.getfield 240, 3, 11, 25), (.if_icmp .ge 37, 3, 48, 0), (.iload_n 3, 1, 0, 0), (.aload_n 0, 1, 0, 0), (.iload 4, 2, 0, 0), (.invokevirtual 258, 3, 202, 2), (.ifCond .eq 18, 3, 39, 0), (.aload_n 0, 1, 0, 0), (.iload 4, 2, 0, 0), (.iload_n 1, 1, 0, 0), (.iload_n 2, 1, 0, 0), (.invokevirtual 431, 3, 259, 4), (.ifCond .eq 7, 3, 39, 0), (.iconst 1, 1, 1, 0), (.goto 4, 3, 40, 0)]
def kb_260_39 : List pb_El := [(.iconst 0, 1, 0, 0)]
def kb_260_40 : List pb_El := [(.iadd, 1, 0, 0), (.istore_n 3, 1, 0, 0), (.iinc 4 1, 3, 1, 0), (.goto (-40), 3, 5, 0)]
def kb_260_48 : List pb_El := [(.iload_n 3, 1, 0, 0), (.ireturn, 1, 0, 0)]
/-- PointedBenchModel.duelOf(II)I -/
def kc_260 : List (Nat × List pb_El) := [(0, kb_260_0), (5, kb_260_5), (39, kb_260_39), (40, kb_260_40), (48, kb_260_48)]
def kb_261_0 : List pb_El := [(.aload_n 0, 1, 0, 0), (.iconst 0, 1, 0, 0), (.putfield 81, 3, 11, 0), (.aload_n 0, 1, 0, 0), (.iload_n 1, 1, 0, 0), (.invokevirtual 279, 3, 198, 2), (.ifCond .eq 33, 3, 43, 0), (.aload_n 0, 1, 0, 0), (.iload_n 2, 1, 0, 0), (.invokevirtual 300, 3, 200, 2), (.ifCond .eq 25, 3, 43, 0), (.aload_n 0, 1, 0, 0), (.iload_n 3, 1, 0, 0), (.invokevirtual 300, 3, 200, 2), (.ifCond .eq 17, 3, 43, 0), (.iload_n 2, 1, 0, 0), (.iload_n 3, 1, 0, 0), (.if_icmp .eq 12, 3, 43, 0), (.aload_n 0, 1, 0, 0), (.iload_n 2, 1, 0, 0), (.iload_n 3, 1, 0, 0), (.invokevirtual 434, 3, 260, 3), (.goto 4, 3, 44, 0)]
def kb_261_43 : List pb_El := [(.iconst (-1), 1, 1, 1)]
def kb_261_44 : List pb_El := [(.ireturn, 1, 0, 0)]
/-- PointedBenchModel.duel(III)I -/
def kc_261 : List (Nat × List pb_El) := [(0, kb_261_0), (43, kb_261_43), (44, kb_261_44)]
def kb_262_0 : List pb_El := [(.iconst 0, 1, 0, 0), (.istore_n 1, 1, 0, 0)]
def kb_262_2 : List pb_El := [(.iload_n 1, 1, 0, 0), (.aload_n 0, 1, 0, 0), (.getfield 237, 3, 11, 24), (.if_icmp .ge 63, 3, 70, 0), (.iconst 1, 1, 1, 0), (.istore_n 2, 1, 0, 0), (.iconst 0, 1, 0, 0), (.istore_n 3, 1, 0, 0)]
def kb_262_14 : List pb_El := [(.iload_n 3, 1, 0, 0), (.aload_n 0, 1, 0, 0), (.getfield 237, 3, 11, 24), (.if_icmp .ge 39, 3, 58, 0), (.iload_n 2, 1, 0, 0), (.ifCond .eq 27, 3, 50, 0), (.iload_n 1, 1, 0, 0), (.iload_n 3, 1, 0, 0), (.if_icmp .eq 18, 3, 46, 0), (.aload_n 0, 1, 0, 0), (.iload_n 1, 1, 0, 0), (.iload_n 3, 1, 0, 0), (.invokevirtual 434, 3, 260, 3), (.aload_n 0, 1, 0, 0), (.iload_n 3, 1, 0, 0), (.iload_n 1, 1, 0, 0), (.invokevirtual 434, 3, 260, 3), (.if_icmp .le 7, 3, 50, 0)]
def kb_262_46 : List pb_El := [(.iconst 1, 1, 1, 0), (.goto 4, 3, 51, 0)]
def kb_262_50 : List pb_El := [(.iconst 0, 1, 0, 0)]
def kb_262_51 : List pb_El := [(.istore_n 2, 1, 0, 0), (.iinc 3 1, 3, 1, 0), (.goto (-41), 3, 14, 0)]
def kb_262_58 : List pb_El := [(.iload_n 2, 1, 0, 0), (.ifCond .eq 5, 3, 64, 0), (.iload_n 1, 1, 0, 0), (.ireturn, 1, 0, 0)]
def kb_262_64 : List pb_El := [(.iinc 1 1, 3, 1, 0), (.goto (-65), 3, 2, 0)]
def kb_262_70 : List pb_El := [(.iconst (-1), 1, 1, 1), (.ireturn, 1, 0, 0)]
/-- PointedBenchModel.bestMan()I -/
def kc_262 : List (Nat × List pb_El) := [(0, kb_262_0), (2, kb_262_2), (14, kb_262_14), (46, kb_262_46), (50, kb_262_50), (51, kb_262_51), (58, kb_262_58), (64, kb_262_64), (70, kb_262_70)]
def kb_263_0 : List pb_El := [(.iconst 0, 1, 0, 0), (.istore_n 2, 1, 0, 0), (.iconst 0, 1, 0, 0), (.istore_n 3, 1, 0, 0)]
def kb_263_4 : List pb_El := [(.iload_n 3, 1, 0, 0), (.aload_n 0, 1, 0, 0), (.getfield 237, 3, 11, 24), (.if_icmp .ge 27, 3, 36, 0), (.iload_n 2, 1, 0, 0), (.iload_n 1, 1, 0, 0), (.iload_n 3, 1, 0, 0), (.if_icmp .ne 7, 3, 22, 0), (.iconst 0, 1, 0, 0), (.goto 9, 3, 28, 0)]
def kb_263_22 : List pb_El := [(.aload_n 0, 1, 0, 0), (.iload_n 1, 1, 0, 0), (.iload_n 3, 1, 0, 0), (.invokevirtual 434, 3, 260, 3)]
def kb_263_28 : List pb_El := [(.iadd, 1, 0, 0), (.istore_n 2, 1, 0, 0), (.iinc 3 1, 3, 1, 0), (.goto (-29), 3, 4, 0)]
def kb_263_36 : List pb_El := [(.iload_n 2, 1, 0, 0), (.ireturn, 1, 0, 0)]
/-- PointedBenchModel.scoreOf(I)I -/
def kc_263 : List (Nat × List pb_El) := [(0, kb_263_0), (4, kb_263_4), (22, kb_263_22), (28, kb_263_28), (36, kb_263_36)]
def kb_264_0 : List pb_El := [(.iconst 0, 1, 0, 0), (.istore_n 1, 1, 0, 0), (.iconst (-1), 1, 1, 1), (.istore_n 2, 1, 0, 0), (.iconst 0, 1, 0, 0), (.istore_n 3, 1, 0, 0)]
def kb_264_6 : List pb_El := [(.iload_n 3, 1, 0, 0), (.bipush 6, 2, 6, 0), (.if_icmp .ge 66, 3, 75, 0), (.iconst 0, 1, 0, 0), (.istore 4, 2, 0, 0), (.iconst 0, 1, 0, 0), (.istore 5, 2, 0, 0)]
def kb_264_18 : List pb_El := [(.iload 5, 2, 0, 0), (.aload_n 0, 1, 0, 0), (.getfield 240, 3, 11, 25), (.if_icmp .ge 26, 3, 50, 0), (.iload 4, 2, 0, 0), (.aload_n 0, 1, 0, 0), (.getfield 53, 3, 11, 34), (.bipush 6, 2, 6, 0), (.iload 5, 2, 0, 0), (.imul, 1, 0, 0), (.iload_n 3, 1, 0, 0), (.iadd, 1, 0, 0), (.iaload, 1, 0, 0), (.iadd, 1, 0, 0), (.istore 4, 2, 0, 0), (.iinc 5 1, 3, 1, 0), (.goto (-29), 3, 18, 0)]
def kb_264_50 : List pb_El := [(.iload 4, 2, 0, 0), (.iload_n 2, 1, 0, 0), (.if_icmp .le 7, 3, 60, 0), (.iload_n 3, 1, 0, 0), (.goto 4, 3, 61, 0)]
def kb_264_60 : List pb_El := [(.iload_n 1, 1, 0, 0)]
def kb_264_61 : List pb_El := [(.istore_n 1, 1, 0, 0), (.iload_n 2, 1, 0, 0), (.iload 4, 2, 0, 0), (.invokestatic 175, 3, 170, 2), (.istore_n 2, 1, 0, 0), (.iinc 3 1, 3, 1, 0), (.goto (-66), 3, 6, 0)]
def kb_264_75 : List pb_El := [(.iload_n 1, 1, 0, 0), (.ireturn, 1, 0, 0)]
/-- PointedBenchModel.sweetest()I -/
def kc_264 : List (Nat × List pb_El) := [(0, kb_264_0), (6, kb_264_6), (18, kb_264_18), (50, kb_264_50), (60, kb_264_60), (61, kb_264_61), (75, kb_264_75)]
def kb_265_0 : List pb_El := [(.iconst 0, 1, 0, 0), (.istore_n 1, 1, 0, 0), (.ldc_w 408, 3, 1, 0), (.istore_n 2, 1, 0, 0), (.iconst 0, 1, 0, 0), (.istore_n 3, 1, 0, 0)]
def kb_265_8 : List pb_El := [(.iload_n 3, 1, 0, 0), (.bipush 6, 2, 6, 0), (.if_icmp .ge 73, 3, 84, 0), (.iconst 0, 1, 0, 0), (.istore 4, 2, 0, 0), (.iconst 0, 1, 0, 0), (.istore 5, 2, 0, 0)]
def kb_265_20 : List pb_El := [(.iload 5, 2, 0, 0), (.aload_n 0, 1, 0, 0), (.getfield 237, 3, 11, 24), (.if_icmp .ge 33, 3, 59, 0), (.iload 4, 2, 0, 0), (.aload_n 0, 1, 0, 0), (.getfield 41, 3, 11, 30), (.iload 5, 2, 0, 0), (.iaload, 1, 0, 0), (.iload_n 3, 1, 0, 0), (.invokestatic 85, 3, 169, 2), (.ifCond .eq 7, 3, 49, 0), (.iconst 1, 1, 1, 0), (.goto 4, 3, 50, 0)]
def kb_265_49 : List pb_El := [(.iconst 0, 1, 0, 0)]
def kb_265_50 : List pb_El := [(.iadd, 1, 0, 0), (.istore 4, 2, 0, 0), (.iinc 5 1, 3, 1, 0), (.goto (-36), 3, 20, 0)]
def kb_265_59 : List pb_El := [(.iload 4, 2, 0, 0), (.iload_n 2, 1, 0, 0), (.if_icmp .ge 7, 3, 69, 0), (.iload_n 3, 1, 0, 0), (.goto 4, 3, 70, 0)]
def kb_265_69 : List pb_El := [(.iload_n 1, 1, 0, 0)]
def kb_265_70 : List pb_El := [(.istore_n 1, 1, 0, 0), (.iload_n 2, 1, 0, 0), (.iload 4, 2, 0, 0), (.invokestatic 297, 3, 171, 2), (.istore_n 2, 1, 0, 0), (.iinc 3 1, 3, 1, 0), (.goto (-73), 3, 8, 0)]
def kb_265_84 : List pb_El := [(.iload_n 1, 1, 0, 0), (.ireturn, 1, 0, 0)]
/-- PointedBenchModel.rarest()I -/
def kc_265 : List (Nat × List pb_El) := [(0, kb_265_0), (8, kb_265_8), (20, kb_265_20), (49, kb_265_49), (50, kb_265_50), (59, kb_265_59), (69, kb_265_69), (70, kb_265_70), (84, kb_265_84)]
def kb_266_0 : List pb_El := [(.iconst 0, 1, 0, 0), (.istore_n 1, 1, 0, 0), (.iconst 0, 1, 0, 0), (.istore_n 2, 1, 0, 0)]
def kb_266_4 : List pb_El := [(.iload_n 2, 1, 0, 0), (.aload_n 0, 1, 0, 0), (.getfield 237, 3, 11, 24), (.if_icmp .ge 45, 3, 54, 0), (.iconst 0, 1, 0, 0), (.istore_n 3, 1, 0, 0)]
def kb_266_14 : List pb_El := [(.iload_n 3, 1, 0, 0), (.iload_n 2, 1, 0, 0), (.if_icmp .ge 32, 3, 48, 0), (.iload_n 1, 1, 0, 0), (.aload_n 0, 1, 0, 0), (.getfield 41, 3, 11, 30), (.iload_n 2, 1, 0, 0), (.iaload, 1, 0, 0), (.aload_n 0, 1, 0, 0), (.getfield 41, 3, 11, 30), (.iload_n 3, 1, 0, 0), (.iaload, 1, 0, 0), (.if_icmp .ne 7, 3, 39, 0), (.iconst 1, 1, 1, 0), (.goto 4, 3, 40, 0)]
def kb_266_39 : List pb_El := [(.iconst 0, 1, 0, 0)]
def kb_266_40 : List pb_El := [(.iadd, 1, 0, 0), (.istore_n 1, 1, 0, 0), (.iinc 3 1, 3, 1, 0), (.goto (-31), 3, 14, 0)]
def kb_266_48 : List pb_El := [(.iinc 2 1, 3, 1, 0), (.goto (-47), 3, 4, 0)]
def kb_266_54 : List pb_El := [(.iload_n 1, 1, 0, 0), (.ireturn, 1, 0, 0)]
/-- PointedBenchModel.twins()I -/
def kc_266 : List (Nat × List pb_El) := [(0, kb_266_0), (4, kb_266_4), (14, kb_266_14), (39, kb_266_39), (40, kb_266_40), (48, kb_266_48), (54, kb_266_54)]
def kb_267_0 : List pb_El := [(.iconst 0, 1, 0, 0), (.istore_n 2, 1, 0, 0), (.iconst 0, 1, 0, 0), (.istore_n 3, 1, 0, 0)]
def kb_267_4 : List pb_El := [(.iload_n 3, 1, 0, 0), (.aload_n 0, 1, 0, 0), (.getfield 237, 3, 11, 24), (.if_icmp .ge 30, 3, 39, 0), (.iload_n 2, 1, 0, 0), (.iload_n 1, 1, 0, 0), (.iload_n 3, 1, 0, 0), (.invokestatic 85, 3, 169, 2), (.ifCond .eq 12, 3, 30, 0), (.aload_n 0, 1, 0, 0), (.getfield 41, 3, 11, 30), (.iload_n 3, 1, 0, 0), (.iaload, 1, 0, 0), (.goto 4, 3, 31, 0)]
def kb_267_30 : List pb_El := [(.iconst 0, 1, 0, 0)]
def kb_267_31 : List pb_El := [(.ior, 1, 0, 0), (.istore_n 2, 1, 0, 0), (.iinc 3 1, 3, 1, 0), (.goto (-32), 3, 4, 0)]
def kb_267_39 : List pb_El := [(.iload_n 2, 1, 0, 0), (.ireturn, 1, 0, 0)]
/-- PointedBenchModel.traitsOf(I)I -/
def kc_267 : List (Nat × List pb_El) := [(0, kb_267_0), (4, kb_267_4), (30, kb_267_30), (31, kb_267_31), (39, kb_267_39)]
def kb_268_0 : List pb_El := [(.aload_n 0, 1, 0, 0), (.bipush 63, 2, 63, 0), (.invokevirtual 437, 3, 267, 2), (.istore_n 1, 1, 0, 0), (.iconst (-1), 1, 1, 1), (.istore_n 2, 1, 0, 0), (.iconst 0, 1, 0, 0), (.istore_n 3, 1, 0, 0)]
def kb_268_11 : List pb_El := [(.iload_n 3, 1, 0, 0), (.iconst 1, 1, 1, 0), (.aload_n 0, 1, 0, 0), (.getfield 237, 3, 11, 24), (.ishl, 1, 0, 0), (.if_icmp .ge 52, 3, 70, 0), (.iload_n 2, 1, 0, 0), (.iconst (-1), 1, 1, 1), (.if_icmp .eq 14, 3, 37, 0), (.iload_n 3, 1, 0, 0), (.invokestatic 340, 3, 172, 1), (.iload_n 2, 1, 0, 0), (.invokestatic 340, 3, 172, 1), (.if_icmp .ge 7, 3, 41, 0)]
def kb_268_37 : List pb_El := [(.iconst 1, 1, 1, 0), (.goto 4, 3, 42, 0)]
def kb_268_41 : List pb_El := [(.iconst 0, 1, 0, 0)]
def kb_268_42 : List pb_El := [(.istore 4, 2, 0, 0), (.iload 4, 2, 0, 0), (.ifCond .eq 16, 3, 62, 0), (.aload_n 0, 1, 0, 0), (.iload_n 3, 1, 0, 0), (.invokevirtual 437, 3, 267, 2), (.iload_n 1, 1, 0, 0), (.if_icmp .ne 7, 3, 62, 0), (.iload_n 3, 1, 0, 0), (.goto 4, 3, 63, 0)]
def kb_268_62 : List pb_El := [(.iload_n 2, 1, 0, 0)]
def kb_268_63 : List pb_El := [(.istore_n 2, 1, 0, 0), (.iinc 3 1, 3, 1, 0), (.goto (-56), 3, 11, 0)]
def kb_268_70 : List pb_El := [(.iload_n 2, 1, 0, 0), (.ireturn, 1, 0, 0)]
/-- PointedBenchModel.guards()I -/
def kc_268 : List (Nat × List pb_El) := [(0, kb_268_0), (11, kb_268_11), (37, kb_268_37), (41, kb_268_41), (42, kb_268_42), (62, kb_268_62), (63, kb_268_63), (70, kb_268_70)]
def kb_269_0 : List pb_El := [(.iconst 0, 1, 0, 0), (.istore_n 1, 1, 0, 0), (.iconst 0, 1, 0, 0), (.istore_n 2, 1, 0, 0)]
def kb_269_4 : List pb_El := [(.iload_n 2, 1, 0, 0), (.aload_n 0, 1, 0, 0), (.getfield 240, 3, 11, 25), (.if_icmp .ge 20, 3, 29, 0), (.iload_n 1, 1, 0, 0), (.aload_n 0, 1, 0, 0), (.getfield 47, 3, 11, 32), (.iload_n 2, 1, 0, 0), (.iaload, 1, 0, 0), (.invokestatic 175, 3, 170, 2), (.istore_n 1, 1, 0, 0), (.iinc 2 1, 3, 1, 0), (.goto (-22), 3, 4, 0)]
def kb_269_29 : List pb_El := [(.iload_n 1, 1, 0, 0), (.ireturn, 1, 0, 0)]
/-- PointedBenchModel.longest()I -/
def kc_269 : List (Nat × List pb_El) := [(0, kb_269_0), (4, kb_269_4), (29, kb_269_29)]
def kb_270_0 : List pb_El := [(.aload_n 0, 1, 0, 0), (.iconst 0, 1, 0, 0), (.putfield 81, 3, 11, 0), (.aload_n 0, 1, 0, 0), (.iload_n 1, 1, 0, 0), (.invokevirtual 279, 3, 198, 2), (.ifCond .ne 6, 3, 16, 0), (.bipush (-2), 2, 2, 1), (.ireturn, 1, 0, 0)]
def kb_270_16 : List pb_El := [(.iload_n 2, 1, 0, 0), (.bipush 10, 2, 10, 0), (.if_icmp .lt 28, 3, 47, 0), (.aload_n 0, 1, 0, 0), (.iload_n 2, 1, 0, 0), (.bipush 10, 2, 10, 0), (.isub, 1, 0, 0), (.invokevirtual 300, 3, 200, 2), (.ifCond .eq 14, 3, 44, 0), (.aload_n 0, 1, 0, 0), (.iload_n 2, 1, 0, 0), (.bipush 10, 2, 10, 0), (.isub, 1, 0, 0), (.invokevirtual 440, 3, 263, 2), (.goto 5, 3, 46, 0)]
def kb_270_44 : List pb_El := [(.bipush (-2), 2, 2, 1)]
def kb_270_46 : List pb_El := [(.ireturn, 1, 0, 0)]
def kb_270_47 : List pb_El := [(.iload_n 2, 1, 0, 0), (.tableswitch 82 0 6 #[44, 49, 54, 59, 64, 72, 77], 44, 0, 0)]
def kb_270_92 : List pb_El := [(.aload_n 0, 1, 0, 0), (.invokevirtual 443, 3, 262, 1), (.ireturn, 1, 0, 0)]
def kb_270_97 : List pb_El := [(.aload_n 0, 1, 0, 0), (.invokevirtual 446, 3, 264, 1), (.ireturn, 1, 0, 0)]
def kb_270_102 : List pb_El := [(.aload_n 0, 1, 0, 0), (.invokevirtual 449, 3, 265, 1), (.ireturn, 1, 0, 0)]
def kb_270_107 : List pb_El := [(.aload_n 0, 1, 0, 0), (.invokevirtual 452, 3, 266, 1), (.ireturn, 1, 0, 0)]
def kb_270_112 : List pb_El := [(.aload_n 0, 1, 0, 0), (.invokevirtual 455, 3, 268, 1), (.invokestatic 340, 3, 172, 1), (.ireturn, 1, 0, 0)]
def kb_270_120 : List pb_El := [(.aload_n 0, 1, 0, 0), (.invokevirtual 455, 3, 268, 1), (.ireturn, 1, 0, 0)]
def kb_270_125 : List pb_El := [(.aload_n 0, 1, 0, 0), (.invokevirtual 458, 3, 269, 1), (.ireturn, 1, 0, 0)]
def kb_270_130 : List pb_El := [(.bipush (-2), 2, 2, 1), (.ireturn, 1, 0, 0)]
/-- PointedBenchModel.best(II)I -/
def kc_270 : List (Nat × List pb_El) := [(0, kb_270_0), (16, kb_270_16), (44, kb_270_44), (46, kb_270_46), (47, kb_270_47), (92, kb_270_92), (97, kb_270_97), (102, kb_270_102), (107, kb_270_107), (112, kb_270_112), (120, kb_270_120), (125, kb_270_125), (130, kb_270_130)]
def kb_271_0 : List pb_El := [(.aload_n 0, 1, 0, 0), (.iconst 0, 1, 0, 0), (.putfield 81, 3, 11, 0), (.aload_n 0, 1, 0, 0), (.iload_n 1, 1, 0, 0), (.invokevirtual 279, 3, 198, 2), (.ifCond .eq 11, 3, 21, 0), (.aload_n 0, 1, 0, 0), (.iload_n 2, 1, 0, 0), (.invokevirtual 300, 3, 200, 2), (.ifCond .ne 5, 3, 23, 0)]
def kb_271_21 : List pb_El := [(.iconst (-1), 1, 1, 1), (.ireturn, 1, 0, 0)]
def kb_271_23 : List pb_El := [(.aload_n 0, 1, 0, 0), (.invokevirtual 273, 3, 208, 1), (.aload_n 0, 1, 0, 0), (.invokevirtual 331, 3, 203, 1), (.istore_n 3, 1, 0, 0), (.iconst 0, 1, 0, 0), (.istore 4, 2, 0, 0), (.iconst 0, 1, 0, 0), (.istore 5, 2, 0, 0)]
def kb_271_38 : List pb_El := [(.iload 5, 2, 0, 0), (.bipush 64, 2, 64, 0), (.if_icmp .ge 38, 3, 80, 0), (.iload 4, 2, 0, 0), (.iload 5, 2, 0, 0), (.iload_n 3, 1, 0, 0), (.iconst (-1), 1, 1, 1), (.ixor, 1, 0, 0), (.iand, 1, 0, 0), (.ifCond .ne 17, 3, 70, 0), (.aload_n 0, 1, 0, 0), (.iload 5, 2, 0, 0), (.invokevirtual 276, 3, 209, 2), (.iload_n 2, 1, 0, 0), (.if_icmp .ne 7, 3, 70, 0), (.iconst 1, 1, 1, 0), (.goto 4, 3, 71, 0)]
def kb_271_70 : List pb_El := [(.iconst 0, 1, 0, 0)]
def kb_271_71 : List pb_El := [(.iadd, 1, 0, 0), (.istore 4, 2, 0, 0), (.iinc 5 1, 3, 1, 0), (.goto (-39), 3, 38, 0)]
def kb_271_80 : List pb_El := [(.iload 4, 2, 0, 0), (.ireturn, 1, 0, 0)]
/-- PointedBenchModel.benches(II)I -/
def kc_271 : List (Nat × List pb_El) := [(0, kb_271_0), (21, kb_271_21), (23, kb_271_23), (38, kb_271_38), (70, kb_271_70), (71, kb_271_71), (80, kb_271_80)]
def kb_272_0 : List pb_El := [(.aload_n 0, 1, 0, 0), (.iconst 0, 1, 0, 0), (.putfield 81, 3, 11, 0), (.aload_n 0, 1, 0, 0), (.iload_n 1, 1, 0, 0), (.invokevirtual 279, 3, 198, 2), (.ifCond .eq 24, 3, 34, 0), (.aload_n 0, 1, 0, 0), (.iload_n 2, 1, 0, 0), (.invokevirtual 300, 3, 200, 2), (.ifCond .eq 16, 3, 34, 0), (.aload_n 0, 1, 0, 0), (.iload_n 3, 1, 0, 0), (.invokevirtual 300, 3, 200, 2), (.ifCond .eq 8, 3, 34, 0), (.iload_n 2, 1, 0, 0), (.iload_n 3, 1, 0, 0), (.if_icmp .ne 5, 3, 36, 0)]
def kb_272_34 : List pb_El := [(.iconst (-1), 1, 1, 1), (.ireturn, 1, 0, 0)]
def kb_272_36 : List pb_El := [(.aload_n 0, 1, 0, 0), (.getfield 41, 3, 11, 30), (.iload_n 2, 1, 0, 0), (.iaload, 1, 0, 0), (.istore 4, 2, 0, 0), (.aload_n 0, 1, 0, 0), (.getfield 41, 3, 11, 30), (.iload_n 3, 1, 0, 0), (.iaload, 1, 0, 0), (.istore 5, 2, 0, 0), (.iconst 0, 1, 0, 0), (.istore 6, 2, 0, 0)]
def kb_272_55 : List pb_El := [(.iload 6, 2, 0, 0), (.bipush 6, 2, 6, 0), (.if_icmp .ge 112, 3, 171, 0), (.iconst 0, 1, 0, 0), (.istore 7, 2, 0, 0)]
def kb_272_65 : List pb_El := [(.iload 7, 2, 0, 0), (.bipush 6, 2, 6, 0), (.if_icmp .ge 96, 3, 165, 0), (.iload 4, 2, 0, 0), (.iload 5, 2, 0, 0), (.iconst (-1), 1, 1, 1), (.ixor, 1, 0, 0), (.iand, 1, 0, 0), (.iload 6, 2, 0, 0), (.invokestatic 85, 3, 169, 2), (.ifCond .eq 75, 3, 159, 0), (.iload 5, 2, 0, 0), (.iload 4, 2, 0, 0), (.iconst (-1), 1, 1, 1), (.ixor, 1, 0, 0), (.iand, 1, 0, 0), (.iload 7, 2, 0, 0), (.invokestatic 85, 3, 169, 2), (.ifCond .eq 60, 3, 159, 0), (.aload_n 0, 1, 0, 0), (.getfield 41, 3, 11, 30), (.iload_n 2, 1, 0, 0), (.iload 4, 2, 0, 0), (.iconst 1, 1, 1, 0), (.iload 6, 2, 0, 0), (.ishl, 1, 0, 0), (.iconst (-1), 1, 1, 1), (.ixor, 1, 0, 0), (.iand, 1, 0, 0), (.iconst 1, 1, 1, 0), (.iload 7, 2, 0, 0), (.ishl, 1, 0, 0), (.ior, 1, 0, 0), (.iastore, 1, 0, 0), (.aload_n 0, 1, 0, 0), (.getfield 41, 3, 11, 30), (.iload_n 3, 1, 0, 0), (.iload 5, 2, 0, 0), (.iconst 1, 1, 1, 0), (.iload 7, 2, 0, 0), (.ishl, 1, 0, 0), (.iconst (-1), 1, 1, 1), (.ixor, 1, 0, 0), (.iand, 1, 0, 0), (.iconst 1, 1, 1, 0), (.iload 6, 2, 0, 0), (.ishl, 1, 0, 0), (.ior, 1, 0, 0), (.iastore, 1, 0, 0), (.aload_n 0, 1, 0, 0), (.invokevirtual 313, 3, 210, 1), (.iload_n 2, 1, 0, 0), (.if_icmp .ne 12, 3, 159, 0), (.bipush 10, 2, 10, 0), (.iload 6, 2, 0, 0), (.imul, 1, 0, 0), (.iload 7, 2, 0, 0), (.iadd, 1, 0, 0), (.ireturn, 1, 0, 0)]
def kb_272_159 : List pb_El := [(.iinc 7 1, 3, 1, 0), (.goto (-97), 3, 65, 0)]
def kb_272_165 : List pb_El := [(.iinc 6 1, 3, 1, 0), (.goto (-113), 3, 55, 0)]
def kb_272_171 : List pb_El := [(.iconst (-1), 1, 1, 1), (.ireturn, 1, 0, 0)]
/-- PointedBenchModel.trade(III)I -/
def kc_272 : List (Nat × List pb_El) := [(0, kb_272_0), (34, kb_272_34), (36, kb_272_36), (55, kb_272_55), (65, kb_272_65), (159, kb_272_159), (165, kb_272_165), (171, kb_272_171)]
def kb_273_0 : List pb_El := [(.iconst 0, 1, 0, 0), (.istore_n 2, 1, 0, 0), (.iconst 0, 1, 0, 0), (.istore_n 3, 1, 0, 0)]
def kb_273_4 : List pb_El := [(.iload_n 3, 1, 0, 0), (.aload_n 0, 1, 0, 0), (.getfield 240, 3, 11, 25), (.if_icmp .ge 29, 3, 38, 0), (.iload_n 2, 1, 0, 0), (.aload_n 0, 1, 0, 0), (.getfield 56, 3, 11, 35), (.iload_n 3, 1, 0, 0), (.iaload, 1, 0, 0), (.iload_n 1, 1, 0, 0), (.if_icmp .ne 9, 3, 29, 0), (.iconst 1, 1, 1, 0), (.iload_n 3, 1, 0, 0), (.ishl, 1, 0, 0), (.goto 4, 3, 30, 0)]
def kb_273_29 : List pb_El := [(.iconst 0, 1, 0, 0)]
def kb_273_30 : List pb_El := [(.ior, 1, 0, 0), (.istore_n 2, 1, 0, 0), (.iinc 3 1, 3, 1, 0), (.goto (-31), 3, 4, 0)]
def kb_273_38 : List pb_El := [(.iload_n 2, 1, 0, 0), (.ireturn, 1, 0, 0)]
/-- PointedBenchModel.gangOf(I)I -/
def kc_273 : List (Nat × List pb_El) := [(0, kb_273_0), (4, kb_273_4), (29, kb_273_29), (30, kb_273_30), (38, kb_273_38)]
def kb_274_0 : List pb_El := [(.aload_n 0, 1, 0, 0), (.iconst 0, 1, 0, 0), (.putfield 81, 3, 11, 0), (.aload_n 0, 1, 0, 0), (.iload_n 1, 1, 0, 0), (.invokevirtual 279, 3, 198, 2), (.ifCond .ne 5, 3, 15, 0), (.iconst (-1), 1, 1, 1), (.ireturn, 1, 0, 0)]
def kb_274_15 : List pb_El := [(.aload_n 0, 1, 0, 0), (.invokevirtual 273, 3, 208, 1), (.iconst 0, 1, 0, 0), (.istore_n 3, 1, 0, 0), (.iconst 0, 1, 0, 0), (.istore 4, 2, 0, 0)]
def kb_274_24 : List pb_El := [(.iload 4, 2, 0, 0), (.aload_n 0, 1, 0, 0), (.getfield 237, 3, 11, 24), (.if_icmp .ge 36, 3, 66, 0), (.aload_n 0, 1, 0, 0), (.iload 4, 2, 0, 0), (.invokevirtual 461, 3, 273, 2), (.invokestatic 340, 3, 172, 1), (.iload_n 3, 1, 0, 0), (.invokestatic 340, 3, 172, 1), (.if_icmp .le 12, 3, 58, 0), (.aload_n 0, 1, 0, 0), (.iload 4, 2, 0, 0), (.invokevirtual 461, 3, 273, 2), (.goto 4, 3, 59, 0)]
def kb_274_58 : List pb_El := [(.iload_n 3, 1, 0, 0)]
def kb_274_59 : List pb_El := [(.istore_n 3, 1, 0, 0), (.iinc 4 1, 3, 1, 0), (.goto (-39), 3, 24, 0)]
def kb_274_66 : List pb_El := [(.iload_n 2, 1, 0, 0), (.ifCond .eq 7, 3, 74, 0), (.iload_n 3, 1, 0, 0), (.goto 7, 3, 78, 0)]
def kb_274_74 : List pb_El := [(.iload_n 3, 1, 0, 0), (.invokestatic 340, 3, 172, 1)]
def kb_274_78 : List pb_El := [(.ireturn, 1, 0, 0)]
/-- PointedBenchModel.gang(IZ)I -/
def kc_274 : List (Nat × List pb_El) := [(0, kb_274_0), (15, kb_274_15), (24, kb_274_24), (58, kb_274_58), (59, kb_274_59), (66, kb_274_66), (74, kb_274_74), (78, kb_274_78)]
def kb_275_0 : List pb_El := [(.aload_n 0, 1, 0, 0), (.iconst 0, 1, 0, 0), (.putfield 81, 3, 11, 0), (.aload_n 0, 1, 0, 0), (.iload_n 1, 1, 0, 0), (.invokevirtual 279, 3, 198, 2), (.ifCond .eq 11, 3, 21, 0), (.aload_n 0, 1, 0, 0), (.iload_n 2, 1, 0, 0), (.invokevirtual 300, 3, 200, 2), (.ifCond .ne 5, 3, 23, 0)]
def kb_275_21 : List pb_El := [(.iconst (-1), 1, 1, 1), (.ireturn, 1, 0, 0)]
def kb_275_23 : List pb_El := [(.iconst 0, 1, 0, 0), (.istore_n 3, 1, 0, 0), (.iconst (-1), 1, 1, 1), (.istore 4, 2, 0, 0), (.iconst 0, 1, 0, 0), (.istore 5, 2, 0, 0)]
def kb_275_31 : List pb_El := [(.iload 5, 2, 0, 0), (.iload_n 2, 1, 0, 0), (.if_icmp .gt 92, 3, 126, 0), (.iconst (-1), 1, 1, 1), (.istore 4, 2, 0, 0), (.iconst 0, 1, 0, 0), (.istore 6, 2, 0, 0)]
def kb_275_43 : List pb_El := [(.iload 6, 2, 0, 0), (.aload_n 0, 1, 0, 0), (.getfield 237, 3, 11, 24), (.if_icmp .ge 64, 3, 113, 0), (.iload 4, 2, 0, 0), (.iconst (-1), 1, 1, 1), (.if_icmp .eq 22, 3, 77, 0), (.aload_n 0, 1, 0, 0), (.iconst 2, 1, 2, 0), (.iload 6, 2, 0, 0), (.iadd, 1, 0, 0), (.invokevirtual 233, 3, 197, 2), (.aload_n 0, 1, 0, 0), (.iconst 2, 1, 2, 0), (.iload 4, 2, 0, 0), (.iadd, 1, 0, 0), (.invokevirtual 233, 3, 197, 2), (.if_icmp .le 7, 3, 81, 0)]
def kb_275_77 : List pb_El := [(.iconst 1, 1, 1, 0), (.goto 4, 3, 82, 0)]
def kb_275_81 : List pb_El := [(.iconst 0, 1, 0, 0)]
def kb_275_82 : List pb_El := [(.istore 7, 2, 0, 0), (.iload_n 3, 1, 0, 0), (.iload 6, 2, 0, 0), (.invokestatic 85, 3, 169, 2), (.ifCond .ne 13, 3, 103, 0), (.iload 7, 2, 0, 0), (.ifCond .eq 8, 3, 103, 0), (.iload 6, 2, 0, 0), (.goto 5, 3, 105, 0)]
def kb_275_103 : List pb_El := [(.iload 4, 2, 0, 0)]
def kb_275_105 : List pb_El := [(.istore 4, 2, 0, 0), (.iinc 6 1, 3, 1, 0), (.goto (-67), 3, 43, 0)]
def kb_275_113 : List pb_El := [(.iload_n 3, 1, 0, 0), (.iconst 1, 1, 1, 0), (.iload 4, 2, 0, 0), (.ishl, 1, 0, 0), (.ior, 1, 0, 0), (.istore_n 3, 1, 0, 0), (.iinc 5 1, 3, 1, 0), (.goto (-92), 3, 31, 0)]
def kb_275_126 : List pb_El := [(.iload 4, 2, 0, 0), (.ireturn, 1, 0, 0)]
/-- PointedBenchModel.kindest(II)I -/
def kc_275 : List (Nat × List pb_El) := [(0, kb_275_0), (21, kb_275_21), (23, kb_275_23), (31, kb_275_31), (43, kb_275_43), (77, kb_275_77), (81, kb_275_81), (82, kb_275_82), (103, kb_275_103), (105, kb_275_105), (113, kb_275_113), (126, kb_275_126)]
def kb_276_0 : List pb_El := [(.aload_n 0, 1, 0, 0), (.iconst 0, 1, 0, 0), (.putfield 81, 3, 11, 0), (.aload_n 0, 1, 0, 0), (.iload_n 1, 1, 0, 0), (.invokevirtual 279, 3, 198, 2), (.ifCond .eq 11, 3, 21, 0), (.aload_n 0, 1, 0, 0), (.iload_n 2, 1, 0, 0), (.invokevirtual 300, 3, 200, 2), (.ifCond .ne 5, 3, 23, 0)]
def kb_276_21 : List pb_El := [(.iconst (-1), 1, 1, 1), (.ireturn, 1, 0, 0)]
def kb_276_23 : List pb_El := [(.iconst 0, 1, 0, 0), (.istore_n 3, 1, 0, 0), (.iconst 0, 1, 0, 0), (.istore 4, 2, 0, 0)]
def kb_276_28 : List pb_El := [(.iload 4, 2, 0, 0), (.aload_n 0, 1, 0, 0), (.getfield 240, 3, 11, 25), (.if_icmp .ge 50, 3, 84, 0), (.iload_n 3, 1, 0, 0), (.aload_n 0, 1, 0, 0), (.getfield 47, 3, 11, 32), (.iload 4, 2, 0, 0), (.iaload, 1, 0, 0), (.ifCond .le 30, 3, 75, 0), (.bipush 10, 2, 10, 0), (.aload_n 0, 1, 0, 0), (.iconst 2, 1, 2, 0), (.iload_n 2, 1, 0, 0), (.iadd, 1, 0, 0), (.invokevirtual 233, 3, 197, 2), (.imul, 1, 0, 0), (.aload_n 0, 1, 0, 0), (.getfield 47, 3, 11, 32), (.iload 4, 2, 0, 0), (.iaload, 1, 0, 0), (.if_icmp .lt 10, 3, 75, 0), (.iconst 1, 1, 1, 0), (.iload 4, 2, 0, 0), (.ishl, 1, 0, 0), (.goto 4, 3, 76, 0)]
def kb_276_75 : List pb_El := [(.iconst 0, 1, 0, 0)]
def kb_276_76 : List pb_El := [(.ior, 1, 0, 0), (.istore_n 3, 1, 0, 0), (.iinc 4 1, 3, 1, 0), (.goto (-53), 3, 28, 0)]
def kb_276_84 : List pb_El := [(.iload_n 3, 1, 0, 0), (.ireturn, 1, 0, 0)]
/-- PointedBenchModel.freed(II)I -/
def kc_276 : List (Nat × List pb_El) := [(0, kb_276_0), (21, kb_276_21), (23, kb_276_23), (28, kb_276_28), (75, kb_276_75), (76, kb_276_76), (84, kb_276_84)]
def kb_277_0 : List pb_El := [(.aload_n 0, 1, 0, 0), (.iconst 0, 1, 0, 0), (.putfield 81, 3, 11, 0), (.aload_n 0, 1, 0, 0), (.iload_n 1, 1, 0, 0), (.invokevirtual 279, 3, 198, 2), (.ifCond .eq 18, 3, 28, 0), (.aload_n 0, 1, 0, 0), (.iload_n 2, 1, 0, 0), (.invokevirtual 300, 3, 200, 2), (.ifCond .eq 10, 3, 28, 0), (.aload_n 0, 1, 0, 0), (.getfield 240, 3, 11, 25), (.ifCond .ne 7, 3, 32, 0)]
def kb_277_28 : List pb_El := [(.ldc2_w 351, 3, 0, 0), (.lreturn, 1, 0, 0)]
def kb_277_32 : List pb_El := [(.lconst 0, 1, 0, 0), (.lstore 4, 2, 0, 0), (.iconst 0, 1, 0, 0), (.istore 6, 2, 0, 0)]
def kb_277_38 : List pb_El := [(.iload 6, 2, 0, 0), (.aload_n 0, 1, 0, 0), (.getfield 240, 3, 11, 25), (.if_icmp .ge 27, 3, 71, 0), (.lload 4, 2, 0, 0), (.aload_n 0, 1, 0, 0), (.iload 6, 2, 0, 0), (.aload_n 0, 1, 0, 0), (.getfield 41, 3, 11, 30), (.iload_n 2, 1, 0, 0), (.iaload, 1, 0, 0), (.invokevirtual 261, 3, 204, 3), (.i2l, 1, 0, 0), (.ladd, 1, 0, 0), (.lstore 4, 2, 0, 0), (.iinc 6 1, 3, 1, 0), (.goto (-30), 3, 38, 0)]
def kb_277_71 : List pb_El := [(.lload 4, 2, 0, 0), (.aload_n 0, 1, 0, 0), (.getfield 240, 3, 11, 25), (.i2l, 1, 0, 0), (.iload_n 3, 1, 0, 0), (.invokestatic 359, 3, 233, 3), (.lreturn, 1, 0, 0)]
/-- PointedBenchModel.liked(IIZ)J -/
def kc_277 : List (Nat × List pb_El) := [(0, kb_277_0), (28, kb_277_28), (32, kb_277_32), (38, kb_277_38), (71, kb_277_71)]
def kb_278_0 : List pb_El := [(.aload_n 0, 1, 0, 0), (.iconst 0, 1, 0, 0), (.putfield 81, 3, 11, 0), (.aload_n 0, 1, 0, 0), (.iload_n 1, 1, 0, 0), (.invokevirtual 279, 3, 198, 2), (.ifCond .eq 19, 3, 29, 0), (.aload_n 0, 1, 0, 0), (.iload_n 2, 1, 0, 0), (.invokevirtual 282, 3, 201, 2), (.ifCond .eq 11, 3, 29, 0), (.aload_n 0, 1, 0, 0), (.iload_n 3, 1, 0, 0), (.invokevirtual 282, 3, 201, 2), (.ifCond .ne 5, 3, 31, 0)]
def kb_278_29 : List pb_El := [(.iconst (-1), 1, 1, 1), (.ireturn, 1, 0, 0)]
def kb_278_31 : List pb_El := [(.iconst 0, 1, 0, 0), (.istore 4, 2, 0, 0), (.iconst 0, 1, 0, 0), (.istore 5, 2, 0, 0)]
def kb_278_37 : List pb_El := [(.iload 5, 2, 0, 0), (.bipush 6, 2, 6, 0), (.if_icmp .ge 54, 3, 95, 0), (.aload_n 0, 1, 0, 0), (.getfield 53, 3, 11, 34), (.bipush 6, 2, 6, 0), (.iload_n 2, 1, 0, 0), (.imul, 1, 0, 0), (.iload 5, 2, 0, 0), (.iadd, 1, 0, 0), (.iaload, 1, 0, 0), (.aload_n 0, 1, 0, 0), (.getfield 53, 3, 11, 34), (.bipush 6, 2, 6, 0), (.iload_n 3, 1, 0, 0), (.imul, 1, 0, 0), (.iload 5, 2, 0, 0), (.iadd, 1, 0, 0), (.iaload, 1, 0, 0), (.isub, 1, 0, 0), (.istore 6, 2, 0, 0), (.iload 4, 2, 0, 0), (.iload 6, 2, 0, 0), (.ifCond .ge 9, 3, 84, 0), (.iload 6, 2, 0, 0), (.ineg, 1, 0, 0), (.goto 5, 3, 86, 0)]
def kb_278_84 : List pb_El := [(.iload 6, 2, 0, 0)]
def kb_278_86 : List pb_El := [(.iadd, 1, 0, 0), (.istore 4, 2, 0, 0), (.iinc 5 1, 3, 1, 0), (.goto (-55), 3, 37, 0)]
def kb_278_95 : List pb_El := [(.iload 4, 2, 0, 0), (.ireturn, 1, 0, 0)]
/-- PointedBenchModel.unlike(III)I -/
def kc_278 : List (Nat × List pb_El) := [(0, kb_278_0), (29, kb_278_29), (31, kb_278_31), (37, kb_278_37), (84, kb_278_84), (86, kb_278_86), (95, kb_278_95)]
def kb_279_0 : List pb_El := [(.iconst 0, 1, 0, 0), (.istore_n 3, 1, 0, 0), (.iconst 0, 1, 0, 0), (.istore 4, 2, 0, 0)]
def kb_279_5 : List pb_El := [(.iload 4, 2, 0, 0), (.aload_n 0, 1, 0, 0), (.getfield 240, 3, 11, 25), (.if_icmp .ge 37, 3, 48, 0), (.iload_n 3, 1, 0, 0), (.aload_n 0, 1, 0, 0), (.iload 4, 2, 0, 0), (.invokevirtual 258, 3, 202, 2), (.ifCond .eq 18, 3, 39, 0), (.aload_n 0, 1, 0, 0), (.iload 4, 2, 0, 0), (.iload_n 2, 1, 0, 0), (.invokevirtual 267, 3, 206, 3), (.iload_n 1, 1, 0, 0), (.if_icmp .ne 7, 3, 39, 0), (.iconst 1, 1, 1, 0), (.goto 4, 3, 40, 0)]
def kb_279_39 : List pb_El := [(.iconst 0, 1, 0, 0)]
def kb_279_40 : List pb_El := [(.iadd, 1, 0, 0), (.istore_n 3, 1, 0, 0), (.iinc 4 1, 3, 1, 0), (.goto (-40), 3, 5, 0)]
def kb_279_48 : List pb_El := [(.iload_n 3, 1, 0, 0), (.ireturn, 1, 0, 0)]
/-- PointedBenchModel.pointed(II)I -/
def kc_279 : List (Nat × List pb_El) := [(0, kb_279_0), (5, kb_279_5), (39, kb_279_39), (40, kb_279_40), (48, kb_279_48)]
def kb_280_0 : List pb_El := [(.aload_n 0, 1, 0, 0), (.iconst 0, 1, 0, 0), (.putfield 81, 3, 11, 0), (.aload_n 0, 1, 0, 0), (.iload_n 1, 1, 0, 0), (.invokevirtual 279, 3, 198, 2), (.ifCond .eq 11, 3, 21, 0), (.aload_n 0, 1, 0, 0), (.iload_n 2, 1, 0, 0), (.invokevirtual 300, 3, 200, 2), (.ifCond .ne 5, 3, 23, 0)]
def kb_280_21 : List pb_El := [(.iconst (-1), 1, 1, 1), (.ireturn, 1, 0, 0)]
def kb_280_23 : List pb_El := [(.iconst 1, 1, 1, 0), (.aload_n 0, 1, 0, 0), (.getfield 237, 3, 11, 24), (.ishl, 1, 0, 0), (.iconst 1, 1, 1, 0), (.isub, 1, 0, 0), (.istore_n 3, 1, 0, 0), (.iconst (-1), 1, 1, 1), (.istore 4, 2, 0, 0), (.iconst 0, 1, 0, 0), (.istore 5, 2, 0, 0)]
def kb_280_38 : List pb_El := [(.iload 5, 2, 0, 0), (.iload_n 2, 1, 0, 0), (.if_icmp .gt 91, 3, 132, 0), (.iconst (-1), 1, 1, 1), (.istore 4, 2, 0, 0), (.ldc_w 408, 3, 1, 0), (.istore 6, 2, 0, 0), (.iconst 0, 1, 0, 0), (.istore 7, 2, 0, 0)]
def kb_280_55 : List pb_El := [(.iload 7, 2, 0, 0), (.aload_n 0, 1, 0, 0), (.getfield 237, 3, 11, 24), (.if_icmp .ge 56, 3, 117, 0), (.iload_n 3, 1, 0, 0), (.iload 7, 2, 0, 0), (.invokestatic 85, 3, 169, 2), (.ifCond .eq 13, 3, 83, 0), (.aload_n 0, 1, 0, 0), (.iload 7, 2, 0, 0), (.iload_n 3, 1, 0, 0), (.invokevirtual 464, 3, 279, 3), (.goto 6, 3, 86, 0)]
def kb_280_83 : List pb_El := [(.ldc_w 408, 3, 1, 0)]
def kb_280_86 : List pb_El := [(.istore 8, 2, 0, 0), (.iload 8, 2, 0, 0), (.iload 6, 2, 0, 0), (.if_icmp .gt 19, 3, 111, 0), (.iload 8, 2, 0, 0), (.ldc_w 408, 3, 1, 0), (.if_icmp .ge 11, 3, 111, 0), (.iload 7, 2, 0, 0), (.istore 4, 2, 0, 0), (.iload 8, 2, 0, 0), (.istore 6, 2, 0, 0)]
def kb_280_111 : List pb_El := [(.iinc 7 1, 3, 1, 0), (.goto (-59), 3, 55, 0)]
def kb_280_117 : List pb_El := [(.iload_n 3, 1, 0, 0), (.iconst 1, 1, 1, 0), (.iload 4, 2, 0, 0), (.ishl, 1, 0, 0), (.iconst (-1), 1, 1, 1), (.ixor, 1, 0, 0), (.iand, 1, 0, 0), (.istore_n 3, 1, 0, 0), (.iinc 5 1, 3, 1, 0), (.goto (-91), 3, 38, 0)]
def kb_280_132 : List pb_El := [(.iload 4, 2, 0, 0), (.ireturn, 1, 0, 0)]
/-- PointedBenchModel.runoff(II)I -/
def kc_280 : List (Nat × List pb_El) := [(0, kb_280_0), (21, kb_280_21), (23, kb_280_23), (38, kb_280_38), (55, kb_280_55), (83, kb_280_83), (86, kb_280_86), (111, kb_280_111), (117, kb_280_117), (132, kb_280_132)]
def kb_281_0 : List pb_El := [(.aload_n 0, 1, 0, 0), (.getfield 65, 3, 11, 43), (.iload_n 1, 1, 0, 0), (.iaload, 1, 0, 0), (.istore_n 3, 1, 0, 0), (.aload_n 0, 1, 0, 0), (.getfield 65, 3, 11, 43), (.iload_n 1, 1, 0, 0), (.aload_n 0, 1, 0, 0), (.getfield 65, 3, 11, 43), (.iload_n 2, 1, 0, 0), (.iaload, 1, 0, 0), (.iastore, 1, 0, 0), (.aload_n 0, 1, 0, 0), (.getfield 65, 3, 11, 43), (.iload_n 2, 1, 0, 0), (.iload_n 3, 1, 0, 0), (.iastore, 1, 0, 0), (.return_, 1, 0, 0)]
/-- PointedBenchModel.swapRow(II)V -/
def kc_281 : List (Nat × List pb_El) := [(0, kb_281_0)]
def kb_282_0 : List pb_El := [(.aload_n 0, 1, 0, 0), (.getfield 237, 3, 11, 24), (.iconst 2, 1, 2, 0), (.isub, 1, 0, 0), (.istore_n 1, 1, 0, 0)]
def kb_282_7 : List pb_El := [(.iload_n 1, 1, 0, 0), (.ifCond .lt 26, 3, 34, 0), (.aload_n 0, 1, 0, 0), (.getfield 65, 3, 11, 43), (.iload_n 1, 1, 0, 0), (.iaload, 1, 0, 0), (.aload_n 0, 1, 0, 0), (.getfield 65, 3, 11, 43), (.iload_n 1, 1, 0, 0), (.iconst 1, 1, 1, 0), (.iadd, 1, 0, 0), (.iaload, 1, 0, 0), (.if_icmp .le 9, 3, 34, 0), (.iinc 1 (-1), 3, 1, 1), (.goto (-24), 3, 7, 0)]
def kb_282_34 : List pb_El := [(.iload_n 1, 1, 0, 0), (.ifCond .ge 5, 3, 40, 0), (.iconst 0, 1, 0, 0), (.ireturn, 1, 0, 0)]
def kb_282_40 : List pb_El := [(.aload_n 0, 1, 0, 0), (.getfield 237, 3, 11, 24), (.iconst 1, 1, 1, 0), (.isub, 1, 0, 0), (.istore_n 2, 1, 0, 0)]
def kb_282_47 : List pb_El := [(.aload_n 0, 1, 0, 0), (.getfield 65, 3, 11, 43), (.iload_n 2, 1, 0, 0), (.iaload, 1, 0, 0), (.aload_n 0, 1, 0, 0), (.getfield 65, 3, 11, 43), (.iload_n 1, 1, 0, 0), (.iaload, 1, 0, 0), (.if_icmp .ge 9, 3, 68, 0), (.iinc 2 (-1), 3, 1, 1), (.goto (-18), 3, 47, 0)]
def kb_282_68 : List pb_El := [(.aload_n 0, 1, 0, 0), (.iload_n 1, 1, 0, 0), (.iload_n 2, 1, 0, 0), (.invokevirtual 467, 3, 281, 3), (.iinc 1 1, 3, 1, 0), (.aload_n 0, 1, 0, 0), (.getfield 237, 3, 11, 24), (.iconst 1, 1, 1, 0), (.isub, 1, 0, 0), (.istore_n 2, 1, 0, 0)]
def kb_282_84 : List pb_El := [(.iload_n 1, 1, 0, 0), (.iload_n 2, 1, 0, 0), (.if_icmp .ge 18, 3, 104, 0), (.aload_n 0, 1, 0, 0), (.iload_n 1, 1, 0, 0), (.iload_n 2, 1, 0, 0), (.invokevirtual 467, 3, 281, 3), (.iinc 1 1, 3, 1, 0), (.iinc 2 (-1), 3, 1, 1), (.goto (-17), 3, 84, 0)]
def kb_282_104 : List pb_El := [(.iconst 1, 1, 1, 0), (.ireturn, 1, 0, 0)]
/-- PointedBenchModel.nextRow()Z -/
def kc_282 : List (Nat × List pb_El) := [(0, kb_282_0), (7, kb_282_7), (34, kb_282_34), (40, kb_282_40), (47, kb_282_47), (68, kb_282_68), (84, kb_282_84), (104, kb_282_104)]
def kb_283_0 : List pb_El := [(.aload_n 0, 1, 0, 0), (.getfield 65, 3, 11, 43), (.iconst 0, 1, 0, 0), (.iaload, 1, 0, 0), (.istore_n 1, 1, 0, 0), (.iconst 1, 1, 1, 0), (.istore_n 2, 1, 0, 0)]
def kb_283_9 : List pb_El := [(.iload_n 2, 1, 0, 0), (.aload_n 0, 1, 0, 0), (.getfield 237, 3, 11, 24), (.if_icmp .ge 37, 3, 51, 0), (.aload_n 0, 1, 0, 0), (.getfield 65, 3, 11, 43), (.iload_n 2, 1, 0, 0), (.iaload, 1, 0, 0), (.istore_n 3, 1, 0, 0), (.aload_n 0, 1, 0, 0), (.iload_n 3, 1, 0, 0), (.iload_n 1, 1, 0, 0), (.invokevirtual 434, 3, 260, 3), (.aload_n 0, 1, 0, 0), (.iload_n 1, 1, 0, 0), (.iload_n 3, 1, 0, 0), (.invokevirtual 434, 3, 260, 3), (.if_icmp .le 7, 3, 43, 0), (.iload_n 3, 1, 0, 0), (.goto 4, 3, 44, 0)]
def kb_283_43 : List pb_El := [(.iload_n 1, 1, 0, 0)]
def kb_283_44 : List pb_El := [(.istore_n 1, 1, 0, 0), (.iinc 2 1, 3, 1, 0), (.goto (-39), 3, 9, 0)]
def kb_283_51 : List pb_El := [(.iload_n 1, 1, 0, 0), (.ireturn, 1, 0, 0)]
/-- PointedBenchModel.stays()I -/
def kc_283 : List (Nat × List pb_El) := [(0, kb_283_0), (9, kb_283_9), (43, kb_283_43), (44, kb_283_44), (51, kb_283_51)]
def kb_284_0 : List pb_El := [(.aload_n 0, 1, 0, 0), (.iconst 0, 1, 0, 0), (.putfield 81, 3, 11, 0), (.aload_n 0, 1, 0, 0), (.iload_n 1, 1, 0, 0), (.invokevirtual 279, 3, 198, 2), (.ifCond .eq 19, 3, 29, 0), (.aload_n 0, 1, 0, 0), (.iload_n 2, 1, 0, 0), (.invokevirtual 300, 3, 200, 2), (.ifCond .eq 11, 3, 29, 0), (.aload_n 0, 1, 0, 0), (.iload_n 3, 1, 0, 0), (.invokevirtual 300, 3, 200, 2), (.ifCond .ne 5, 3, 31, 0)]
def kb_284_29 : List pb_El := [(.iconst (-1), 1, 1, 1), (.ireturn, 1, 0, 0)]
def kb_284_31 : List pb_El := [(.iconst 0, 1, 0, 0), (.istore 4, 2, 0, 0)]
def kb_284_34 : List pb_El := [(.iload 4, 2, 0, 0), (.bipush 6, 2, 6, 0), (.if_icmp .ge 18, 3, 56, 0), (.aload_n 0, 1, 0, 0), (.getfield 65, 3, 11, 43), (.iload 4, 2, 0, 0), (.iload 4, 2, 0, 0), (.iastore, 1, 0, 0), (.iinc 4 1, 3, 1, 0), (.goto (-19), 3, 34, 0)]
def kb_284_56 : List pb_El := [(.iconst 1, 1, 1, 0), (.istore 4, 2, 0, 0)]
def kb_284_59 : List pb_El := [(.iload 4, 2, 0, 0), (.ifCond .eq 27, 3, 88, 0), (.aload_n 0, 1, 0, 0), (.invokevirtual 470, 3, 283, 1), (.iload_n 2, 1, 0, 0), (.if_icmp .ne 10, 3, 79, 0), (.aload_n 0, 1, 0, 0), (.getfield 65, 3, 11, 43), (.iload_n 3, 1, 0, 0), (.iaload, 1, 0, 0), (.ireturn, 1, 0, 0)]
def kb_284_79 : List pb_El := [(.aload_n 0, 1, 0, 0), (.invokevirtual 473, 3, 282, 1), (.istore 4, 2, 0, 0), (.goto (-26), 3, 59, 0)]
def kb_284_88 : List pb_El := [(.iconst (-1), 1, 1, 1), (.ireturn, 1, 0, 0)]
/-- PointedBenchModel.agenda(III)I -/
def kc_284 : List (Nat × List pb_El) := [(0, kb_284_0), (29, kb_284_29), (31, kb_284_31), (34, kb_284_34), (56, kb_284_56), (59, kb_284_59), (79, kb_284_79), (88, kb_284_88)]
def kb_285_0 : List pb_El := [(.aload_n 0, 1, 0, 0), (.iconst 0, 1, 0, 0), (.putfield 81, 3, 11, 0), (.aload_n 0, 1, 0, 0), (.iload_n 1, 1, 0, 0), (.invokevirtual 279, 3, 198, 2), (.ifCond .eq 19, 3, 29, 0), (.aload_n 0, 1, 0, 0), (.iload_n 2, 1, 0, 0), (.invokevirtual 282, 3, 201, 2), (.ifCond .eq 11, 3, 29, 0), (.aload_n 0, 1, 0, 0), (.iload_n 2, 1, 0, 0), (.invokevirtual 258, 3, 202, 2), (.ifCond .ne 5, 3, 31, 0)]
def kb_285_29 : List pb_El := [(.iconst (-1), 1, 1, 1), (.ireturn, 1, 0, 0)]
def kb_285_31 : List pb_El := [(.aload_n 0, 1, 0, 0), (.invokevirtual 313, 3, 210, 1), (.istore_n 3, 1, 0, 0), (.iconst 0, 1, 0, 0), (.istore 4, 2, 0, 0)]
def kb_285_39 : List pb_El := [(.iload 4, 2, 0, 0), (.aload_n 0, 1, 0, 0), (.getfield 237, 3, 11, 24), (.if_icmp .ge 52, 3, 97, 0), (.iload_n 3, 1, 0, 0), (.bipush 6, 2, 6, 0), (.if_icmp .ge 46, 3, 97, 0), (.aload_n 0, 1, 0, 0), (.getfield 56, 3, 11, 35), (.iload_n 2, 1, 0, 0), (.iload 4, 2, 0, 0), (.iastore, 1, 0, 0), (.aload_n 0, 1, 0, 0), (.bipush 63, 2, 63, 0), (.invokevirtual 276, 3, 209, 2), (.istore 5, 2, 0, 0), (.iload 5, 2, 0, 0), (.bipush 6, 2, 6, 0), (.if_icmp .ge 17, 3, 91, 0), (.aload_n 0, 1, 0, 0), (.iload_n 2, 1, 0, 0), (.iload 5, 2, 0, 0), (.iload_n 3, 1, 0, 0), (.invokevirtual 431, 3, 259, 4), (.ifCond .eq 6, 3, 91, 0), (.iload 4, 2, 0, 0), (.ireturn, 1, 0, 0)]
def kb_285_91 : List pb_El := [(.iinc 4 1, 3, 1, 0), (.goto (-55), 3, 39, 0)]
def kb_285_97 : List pb_El := [(.iconst (-1), 1, 1, 1), (.ireturn, 1, 0, 0)]
/-- PointedBenchModel.lies(II)I -/
def kc_285 : List (Nat × List pb_El) := [(0, kb_285_0), (29, kb_285_29), (31, kb_285_31), (39, kb_285_39), (91, kb_285_91), (97, kb_285_97)]
def kb_286_0 : List pb_El := [(.aload_n 0, 1, 0, 0), (.getfield 53, 3, 11, 34), (.bipush 6, 2, 6, 0), (.iload_n 1, 1, 0, 0), (.imul, 1, 0, 0), (.iload_n 3, 1, 0, 0), (.iadd, 1, 0, 0), (.iaload, 1, 0, 0), (.istore 4, 2, 0, 0), (.ldc_w 408, 3, 1, 0), (.istore 5, 2, 0, 0), (.iconst 0, 1, 0, 0), (.istore 6, 2, 0, 0)]
def kb_286_21 : List pb_El := [(.iload 6, 2, 0, 0), (.bipush 60, 2, 60, 0), (.if_icmp .ge 52, 3, 77, 0), (.iload 5, 2, 0, 0), (.ldc_w 408, 3, 1, 0), (.if_icmp .ne 44, 3, 77, 0), (.aload_n 0, 1, 0, 0), (.getfield 53, 3, 11, 34), (.bipush 6, 2, 6, 0), (.iload_n 1, 1, 0, 0), (.imul, 1, 0, 0), (.iload_n 3, 1, 0, 0), (.iadd, 1, 0, 0), (.iload 4, 2, 0, 0), (.iload 6, 2, 0, 0), (.iadd, 1, 0, 0), (.iastore, 1, 0, 0), (.aload_n 0, 1, 0, 0), (.iload_n 1, 1, 0, 0), (.invokevirtual 270, 3, 207, 2), (.iload_n 2, 1, 0, 0), (.if_icmp .ne 8, 3, 66, 0), (.iload 6, 2, 0, 0), (.goto 6, 3, 69, 0)]
def kb_286_66 : List pb_El := [(.ldc_w 408, 3, 1, 0)]
def kb_286_69 : List pb_El := [(.istore 5, 2, 0, 0), (.iinc 6 1, 3, 1, 0), (.goto (-53), 3, 21, 0)]
def kb_286_77 : List pb_El := [(.aload_n 0, 1, 0, 0), (.getfield 53, 3, 11, 34), (.bipush 6, 2, 6, 0), (.iload_n 1, 1, 0, 0), (.imul, 1, 0, 0), (.iload_n 3, 1, 0, 0), (.iadd, 1, 0, 0), (.iload 4, 2, 0, 0), (.iastore, 1, 0, 0), (.iload 5, 2, 0, 0), (.ireturn, 1, 0, 0)]
/-- PointedBenchModel.bunOf(III)I -/
def kc_286 : List (Nat × List pb_El) := [(0, kb_286_0), (21, kb_286_21), (66, kb_286_66), (69, kb_286_69), (77, kb_286_77)]
def kb_287_0 : List pb_El := [(.aload_n 0, 1, 0, 0), (.iconst 0, 1, 0, 0), (.putfield 81, 3, 11, 0), (.aload_n 0, 1, 0, 0), (.iload_n 1, 1, 0, 0), (.invokevirtual 279, 3, 198, 2), (.ifCond .eq 19, 3, 29, 0), (.aload_n 0, 1, 0, 0), (.iload_n 2, 1, 0, 0), (.invokevirtual 282, 3, 201, 2), (.ifCond .eq 11, 3, 29, 0), (.aload_n 0, 1, 0, 0), (.iload_n 3, 1, 0, 0), (.invokevirtual 300, 3, 200, 2), (.ifCond .ne 5, 3, 31, 0)]
def kb_287_29 : List pb_El := [(.iconst (-1), 1, 1, 1), (.ireturn, 1, 0, 0)]
def kb_287_31 : List pb_El := [(.iconst (-1), 1, 1, 1), (.istore 5, 2, 0, 0), (.ldc_w 408, 3, 1, 0), (.istore 6, 2, 0, 0), (.iconst 0, 1, 0, 0), (.istore 7, 2, 0, 0)]
def kb_287_42 : List pb_El := [(.iload 7, 2, 0, 0), (.bipush 6, 2, 6, 0), (.if_icmp .ge 44, 3, 90, 0), (.aload_n 0, 1, 0, 0), (.iload_n 2, 1, 0, 0), (.iload_n 3, 1, 0, 0), (.iload 7, 2, 0, 0), (.invokevirtual 476, 3, 286, 4), (.istore 8, 2, 0, 0), (.iload 8, 2, 0, 0), (.iload 6, 2, 0, 0), (.if_icmp .ge 8, 3, 71, 0), (.iload 7, 2, 0, 0), (.goto 5, 3, 73, 0)]
def kb_287_71 : List pb_El := [(.iload 5, 2, 0, 0)]
def kb_287_73 : List pb_El := [(.istore 5, 2, 0, 0), (.iload 6, 2, 0, 0), (.iload 8, 2, 0, 0), (.invokestatic 297, 3, 171, 2), (.istore 6, 2, 0, 0), (.iinc 7 1, 3, 1, 0), (.goto (-45), 3, 42, 0)]
def kb_287_90 : List pb_El := [(.iload 5, 2, 0, 0), (.iconst (-1), 1, 1, 1), (.if_icmp .eq 8, 3, 101, 0), (.iload 4, 2, 0, 0), (.ifCond .eq 8, 3, 106, 0)]
def kb_287_101 : List pb_El := [(.iload 5, 2, 0, 0), (.goto 5, 3, 108, 0)]
def kb_287_106 : List pb_El := [(.iload 6, 2, 0, 0)]
def kb_287_108 : List pb_El := [(.ireturn, 1, 0, 0)]
/-- PointedBenchModel.bun(IIIZ)I -/
def kc_287 : List (Nat × List pb_El) := [(0, kb_287_0), (29, kb_287_29), (31, kb_287_31), (42, kb_287_42), (71, kb_287_71), (73, kb_287_73), (90, kb_287_90), (101, kb_287_101), (106, kb_287_106), (108, kb_287_108)]
def kb_288_0 : List pb_El := [(.iconst 0, 1, 0, 0), (.istore_n 1, 1, 0, 0), (.iconst 0, 1, 0, 0), (.istore_n 2, 1, 0, 0)]
def kb_288_4 : List pb_El := [(.iload_n 2, 1, 0, 0), (.aload_n 0, 1, 0, 0), (.getfield 240, 3, 11, 25), (.if_icmp .ge 28, 3, 37, 0), (.iload_n 1, 1, 0, 0), (.aload_n 0, 1, 0, 0), (.getfield 47, 3, 11, 32), (.iload_n 2, 1, 0, 0), (.iaload, 1, 0, 0), (.ifCond .le 9, 3, 28, 0), (.iconst 1, 1, 1, 0), (.iload_n 2, 1, 0, 0), (.ishl, 1, 0, 0), (.goto 4, 3, 29, 0)]
def kb_288_28 : List pb_El := [(.iconst 0, 1, 0, 0)]
def kb_288_29 : List pb_El := [(.ior, 1, 0, 0), (.istore_n 1, 1, 0, 0), (.iinc 2 1, 3, 1, 0), (.goto (-30), 3, 4, 0)]
def kb_288_37 : List pb_El := [(.iload_n 1, 1, 0, 0), (.ireturn, 1, 0, 0)]
/-- PointedBenchModel.insiders()I -/
def kc_288 : List (Nat × List pb_El) := [(0, kb_288_0), (4, kb_288_4), (28, kb_288_28), (29, kb_288_29), (37, kb_288_37)]
def kb_289_0 : List pb_El := [(.iload_n 1, 1, 0, 0), (.istore 4, 2, 0, 0), (.aload_n 0, 1, 0, 0), (.getfield 240, 3, 11, 25), (.iconst 1, 1, 1, 0), (.isub, 1, 0, 0), (.istore 5, 2, 0, 0)]
def kb_289_11 : List pb_El := [(.iload 5, 2, 0, 0), (.ifCond .lt 54, 3, 67, 0), (.aload_n 0, 1, 0, 0), (.getfield 65, 3, 11, 43), (.iload 5, 2, 0, 0), (.iload_n 3, 1, 0, 0), (.iload 5, 2, 0, 0), (.invokestatic 85, 3, 169, 2), (.ifCond .eq 10, 3, 38, 0), (.iload 4, 2, 0, 0), (.iload_n 2, 1, 0, 0), (.irem, 1, 0, 0), (.goto 5, 3, 40, 0)]
def kb_289_38 : List pb_El := [(.bipush 6, 2, 6, 0)]
def kb_289_40 : List pb_El := [(.iastore, 1, 0, 0), (.iload_n 3, 1, 0, 0), (.iload 5, 2, 0, 0), (.invokestatic 85, 3, 169, 2), (.ifCond .eq 10, 3, 57, 0), (.iload 4, 2, 0, 0), (.iload_n 2, 1, 0, 0), (.idiv, 1, 0, 0), (.goto 5, 3, 59, 0)]
def kb_289_57 : List pb_El := [(.iload 4, 2, 0, 0)]
def kb_289_59 : List pb_El := [(.istore 4, 2, 0, 0), (.iinc 5 (-1), 3, 1, 1), (.goto (-53), 3, 11, 0)]
def kb_289_67 : List pb_El := [(.return_, 1, 0, 0)]
/-- PointedBenchModel.layWings(III)V -/
def kc_289 : List (Nat × List pb_El) := [(0, kb_289_0), (11, kb_289_11), (38, kb_289_38), (40, kb_289_40), (57, kb_289_57), (59, kb_289_59), (67, kb_289_67)]
def kb_290_0 : List pb_El := [(.iconst 0, 1, 0, 0), (.istore_n 1, 1, 0, 0)]
def kb_290_2 : List pb_El := [(.iload_n 1, 1, 0, 0), (.aload_n 0, 1, 0, 0), (.getfield 240, 3, 11, 25), (.if_icmp .ge 66, 3, 73, 0), (.iconst 0, 1, 0, 0), (.istore_n 2, 1, 0, 0)]
def kb_290_12 : List pb_El := [(.iload_n 2, 1, 0, 0), (.iload_n 1, 1, 0, 0), (.if_icmp .ge 53, 3, 67, 0), (.aload_n 0, 1, 0, 0), (.getfield 65, 3, 11, 43), (.iload_n 1, 1, 0, 0), (.iaload, 1, 0, 0), (.aload_n 0, 1, 0, 0), (.getfield 65, 3, 11, 43), (.iload_n 2, 1, 0, 0), (.iaload, 1, 0, 0), (.if_icmp .ne 32, 3, 61, 0), (.aload_n 0, 1, 0, 0), (.getfield 65, 3, 11, 43), (.iload_n 1, 1, 0, 0), (.iaload, 1, 0, 0), (.bipush 6, 2, 6, 0), (.if_icmp .ge 21, 3, 61, 0), (.aload_n 0, 1, 0, 0), (.getfield 50, 3, 11, 33), (.iload_n 1, 1, 0, 0), (.iaload, 1, 0, 0), (.aload_n 0, 1, 0, 0), (.getfield 50, 3, 11, 33), (.iload_n 2, 1, 0, 0), (.iaload, 1, 0, 0), (.iand, 1, 0, 0), (.ifCond .eq 5, 3, 61, 0), (.iconst 0, 1, 0, 0), (.ireturn, 1, 0, 0)]
def kb_290_61 : List pb_El := [(.iinc 2 1, 3, 1, 0), (.goto (-52), 3, 12, 0)]
def kb_290_67 : List pb_El := [(.iinc 1 1, 3, 1, 0), (.goto (-68), 3, 2, 0)]
def kb_290_73 : List pb_El := [(.iconst 1, 1, 1, 0), (.ireturn, 1, 0, 0)]
/-- PointedBenchModel.isCalm()Z -/
def kc_290 : List (Nat × List pb_El) := [(0, kb_290_0), (2, kb_290_2), (12, kb_290_12), (61, kb_290_61), (67, kb_290_67), (73, kb_290_73)]
def kb_291_0 : List pb_El := [(.iload_n 1, 1, 0, 0), (.ifCond .ne 12, 3, 13, 0), (.aload_n 0, 1, 0, 0), (.iconst 0, 1, 0, 0), (.iconst 1, 1, 1, 0), (.iconst 0, 1, 0, 0), (.invokevirtual 480, 3, 289, 4), (.iconst 0, 1, 0, 0), (.ireturn, 1, 0, 0)]
def kb_291_13 : List pb_El := [(.iconst 0, 1, 0, 0), (.istore_n 2, 1, 0, 0), (.iconst 0, 1, 0, 0), (.istore_n 3, 1, 0, 0)]
def kb_291_17 : List pb_El := [(.iload_n 3, 1, 0, 0), (.ifCond .ne 69, 3, 87, 0), (.iinc 2 1, 3, 1, 0), (.iconst 1, 1, 1, 0), (.istore 4, 2, 0, 0), (.iconst 0, 1, 0, 0), (.istore 5, 2, 0, 0)]
def kb_291_30 : List pb_El := [(.iload 5, 2, 0, 0), (.iload_n 1, 1, 0, 0), (.invokestatic 340, 3, 172, 1), (.if_icmp .ge 15, 3, 51, 0), (.iload 4, 2, 0, 0), (.iload_n 2, 1, 0, 0), (.imul, 1, 0, 0), (.istore 4, 2, 0, 0), (.iinc 5 1, 3, 1, 0), (.goto (-18), 3, 30, 0)]
def kb_291_51 : List pb_El := [(.iconst 0, 1, 0, 0), (.istore 5, 2, 0, 0)]
def kb_291_54 : List pb_El := [(.iload 5, 2, 0, 0), (.iload 4, 2, 0, 0), (.if_icmp .ge 26, 3, 84, 0), (.iload_n 3, 1, 0, 0), (.ifCond .ne 22, 3, 84, 0), (.aload_n 0, 1, 0, 0), (.iload 5, 2, 0, 0), (.iload_n 2, 1, 0, 0), (.iload_n 1, 1, 0, 0), (.invokevirtual 480, 3, 289, 4), (.aload_n 0, 1, 0, 0), (.invokevirtual 483, 3, 290, 1), (.istore_n 3, 1, 0, 0), (.iinc 5 1, 3, 1, 0), (.goto (-27), 3, 54, 0)]
def kb_291_84 : List pb_El := [(.goto (-67), 3, 17, 0)]
def kb_291_87 : List pb_El := [(.iload_n 2, 1, 0, 0), (.ireturn, 1, 0, 0)]
/-- PointedBenchModel.fewestWings(I)I -/
def kc_291 : List (Nat × List pb_El) := [(0, kb_291_0), (13, kb_291_13), (17, kb_291_17), (30, kb_291_30), (51, kb_291_51), (54, kb_291_54), (84, kb_291_84), (87, kb_291_87)]
def kb_292_0 : List pb_El := [(.aload_n 0, 1, 0, 0), (.iconst 0, 1, 0, 0), (.putfield 81, 3, 11, 0), (.aload_n 0, 1, 0, 0), (.iload_n 1, 1, 0, 0), (.invokevirtual 279, 3, 198, 2), (.ifCond .eq 17, 3, 27, 0), (.iload_n 2, 1, 0, 0), (.iconst (-1), 1, 1, 1), (.aload_n 0, 1, 0, 0), (.getfield 240, 3, 11, 25), (.iconst 1, 1, 1, 0), (.isub, 1, 0, 0), (.invokestatic 93, 3, 168, 3), (.ifCond .ne 5, 3, 29, 0)]
def kb_292_27 : List pb_El := [(.iconst (-1), 1, 1, 1), (.ireturn, 1, 0, 0)]
def kb_292_29 : List pb_El := [(.aload_n 0, 1, 0, 0), (.aload_n 0, 1, 0, 0), (.invokevirtual 486, 3, 288, 1), (.invokevirtual 489, 3, 291, 2), (.istore_n 3, 1, 0, 0), (.iload_n 2, 1, 0, 0), (.iconst (-1), 1, 1, 1), (.if_icmp .ne 7, 3, 47, 0), (.iload_n 3, 1, 0, 0), (.goto 9, 3, 53, 0)]
def kb_292_47 : List pb_El := [(.aload_n 0, 1, 0, 0), (.getfield 65, 3, 11, 43), (.iload_n 2, 1, 0, 0), (.iaload, 1, 0, 0)]
def kb_292_53 : List pb_El := [(.ireturn, 1, 0, 0)]
/-- PointedBenchModel.wings(II)I -/
def kc_292 : List (Nat × List pb_El) := [(0, kb_292_0), (27, kb_292_27), (29, kb_292_29), (47, kb_292_47), (53, kb_292_53)]
def kb_293_0 : List pb_El := [(.aload_n 0, 1, 0, 0), (.iconst 0, 1, 0, 0), (.putfield 81, 3, 11, 0), (.iload_n 2, 1, 0, 0), (.iconst 0, 1, 0, 0), (.bipush 30, 2, 30, 0), (.invokestatic 93, 3, 168, 3), (.ifCond .eq 11, 3, 23, 0), (.aload_n 0, 1, 0, 0), (.iload_n 1, 1, 0, 0), (.invokevirtual 279, 3, 198, 2), (.ifCond .ne 5, 3, 25, 0)]
def kb_293_23 : List pb_El := [(.iconst (-1), 1, 1, 1), (.ireturn, 1, 0, 0)]
def kb_293_25 : List pb_El := [(.iconst 0, 1, 0, 0), (.istore 4, 2, 0, 0)]
def kb_293_28 : List pb_El := [(.iload 4, 2, 0, 0), (.aload_n 0, 1, 0, 0), (.getfield 240, 3, 11, 25), (.if_icmp .ge 50, 3, 84, 0), (.aload_n 0, 1, 0, 0), (.getfield 44, 3, 11, 31), (.iload 4, 2, 0, 0), (.bipush 99, 2, 99, 0), (.aload_n 0, 1, 0, 0), (.getfield 44, 3, 11, 31), (.iload 4, 2, 0, 0), (.iaload, 1, 0, 0), (.iload_n 2, 1, 0, 0), (.iadd, 1, 0, 0), (.invokestatic 297, 3, 171, 2), (.iastore, 1, 0, 0), (.aload_n 0, 1, 0, 0), (.getfield 47, 3, 11, 32), (.iload 4, 2, 0, 0), (.iconst 0, 1, 0, 0), (.aload_n 0, 1, 0, 0), (.getfield 47, 3, 11, 32), (.iload 4, 2, 0, 0), (.iaload, 1, 0, 0), (.iload_n 2, 1, 0, 0), (.isub, 1, 0, 0), (.invokestatic 175, 3, 170, 2), (.iastore, 1, 0, 0), (.iinc 4 1, 3, 1, 0), (.goto (-53), 3, 28, 0)]
def kb_293_84 : List pb_El := [(.iload_n 3, 1, 0, 0), (.ifCond .eq 10, 3, 95, 0), (.aload_n 0, 1, 0, 0), (.invokevirtual 313, 3, 210, 1), (.goto 7, 3, 99, 0)]
def kb_293_95 : List pb_El := [(.aload_n 0, 1, 0, 0), (.invokevirtual 331, 3, 203, 1)]
def kb_293_99 : List pb_El := [(.ireturn, 1, 0, 0)]
/-- PointedBenchModel.later(IIZ)I -/
def kc_293 : List (Nat × List pb_El) := [(0, kb_293_0), (23, kb_293_23), (25, kb_293_25), (28, kb_293_28), (84, kb_293_84), (95, kb_293_95), (99, kb_293_99)]
def kb_294_0 : List pb_El := [(.aload_n 0, 1, 0, 0), (.iconst 0, 1, 0, 0), (.putfield 81, 3, 11, 0), (.aload_n 0, 1, 0, 0), (.iload_n 1, 1, 0, 0), (.invokevirtual 279, 3, 198, 2), (.ifCond .eq 11, 3, 21, 0), (.aload_n 0, 1, 0, 0), (.iload_n 2, 1, 0, 0), (.invokevirtual 300, 3, 200, 2), (.ifCond .ne 5, 3, 23, 0)]
def kb_294_21 : List pb_El := [(.iconst (-1), 1, 1, 1), (.ireturn, 1, 0, 0)]
def kb_294_23 : List pb_El := [(.aload_n 0, 1, 0, 0), (.iload_n 2, 1, 0, 0), (.iconst 0, 1, 0, 0), (.invokevirtual 343, 3, 230, 3), (.istore 4, 2, 0, 0), (.iload 4, 2, 0, 0), (.iconst (-1), 1, 1, 1), (.if_icmp .eq 7, 3, 41, 0), (.iload_n 3, 1, 0, 0), (.ifCond .eq 8, 3, 46, 0)]
def kb_294_41 : List pb_El := [(.iload 4, 2, 0, 0), (.goto 8, 3, 51, 0)]
def kb_294_46 : List pb_El := [(.iload 4, 2, 0, 0), (.invokestatic 340, 3, 172, 1)]
def kb_294_51 : List pb_El := [(.ireturn, 1, 0, 0)]
/-- PointedBenchModel.fewest(IIZ)I -/
def kc_294 : List (Nat × List pb_El) := [(0, kb_294_0), (21, kb_294_21), (23, kb_294_23), (41, kb_294_41), (46, kb_294_46), (51, kb_294_51)]
def kb_295_0 : List pb_El := [(.iconst 0, 1, 0, 0), (.istore_n 1, 1, 0, 0), (.iconst 0, 1, 0, 0), (.istore_n 2, 1, 0, 0)]
def kb_295_4 : List pb_El := [(.iload_n 2, 1, 0, 0), (.aload_n 0, 1, 0, 0), (.getfield 237, 3, 11, 24), (.if_icmp .ge 21, 3, 30, 0), (.iload_n 1, 1, 0, 0), (.aload_n 0, 1, 0, 0), (.getfield 41, 3, 11, 30), (.iload_n 2, 1, 0, 0), (.iaload, 1, 0, 0), (.invokestatic 340, 3, 172, 1), (.iadd, 1, 0, 0), (.istore_n 1, 1, 0, 0), (.iinc 2 1, 3, 1, 0), (.goto (-23), 3, 4, 0)]
def kb_295_30 : List pb_El := [(.iload_n 1, 1, 0, 0), (.ireturn, 1, 0, 0)]
/-- PointedBenchModel.allTraits()I -/
def kc_295 : List (Nat × List pb_El) := [(0, kb_295_0), (4, kb_295_4), (30, kb_295_30)]
def kb_296_0 : List pb_El := [(.iconst 0, 1, 0, 0), (.istore_n 1, 1, 0, 0), (.iconst 0, 1, 0, 0), (.istore_n 2, 1, 0, 0)]
def kb_296_4 : List pb_El := [(.iload_n 2, 1, 0, 0), (.aload_n 0, 1, 0, 0), (.getfield 240, 3, 11, 25), (.if_icmp .ge 21, 3, 30, 0), (.iload_n 1, 1, 0, 0), (.aload_n 0, 1, 0, 0), (.getfield 50, 3, 11, 33), (.iload_n 2, 1, 0, 0), (.iaload, 1, 0, 0), (.invokestatic 340, 3, 172, 1), (.iadd, 1, 0, 0), (.istore_n 1, 1, 0, 0), (.iinc 2 1, 3, 1, 0), (.goto (-23), 3, 4, 0)]
def kb_296_30 : List pb_El := [(.iload_n 1, 1, 0, 0), (.ireturn, 1, 0, 0)]
/-- PointedBenchModel.allFears()I -/
def kc_296 : List (Nat × List pb_El) := [(0, kb_296_0), (4, kb_296_4), (30, kb_296_30)]
def kb_297_0 : List pb_El := [(.aload_n 0, 1, 0, 0), (.getfield 246, 3, 11, 27), (.istore_n 2, 1, 0, 0), (.aload_n 0, 1, 0, 0), (.invokevirtual 492, 3, 295, 1), (.istore_n 3, 1, 0, 0), (.aload_n 0, 1, 0, 0), (.invokevirtual 495, 3, 296, 1), (.istore 4, 2, 0, 0), (.aload_n 0, 1, 0, 0), (.invokevirtual 273, 3, 208, 1), (.iconst 0, 1, 0, 0), (.istore 5, 2, 0, 0)]
def kb_297_23 : List pb_El := [(.iload 5, 2, 0, 0), (.bipush 6, 2, 6, 0), (.if_icmp .ge 23, 3, 50, 0), (.aload_n 0, 1, 0, 0), (.getfield 74, 3, 11, 46), (.iload 5, 2, 0, 0), (.aload_n 0, 1, 0, 0), (.getfield 56, 3, 11, 35), (.iload 5, 2, 0, 0), (.iaload, 1, 0, 0), (.iastore, 1, 0, 0), (.iinc 5 1, 3, 1, 0), (.goto (-24), 3, 23, 0)]
def kb_297_50 : List pb_El := [(.aload_n 0, 1, 0, 0), (.iload_n 1, 1, 0, 0), (.invokevirtual 322, 3, 221, 2), (.ifCond .ne 5, 3, 60, 0), (.iconst 0, 1, 0, 0), (.ireturn, 1, 0, 0)]
def kb_297_60 : List pb_El := [(.aload_n 0, 1, 0, 0), (.invokevirtual 273, 3, 208, 1), (.iconst 0, 1, 0, 0), (.istore 5, 2, 0, 0)]
def kb_297_67 : List pb_El := [(.iload 5, 2, 0, 0), (.bipush 6, 2, 6, 0), (.if_icmp .ge 41, 3, 112, 0), (.aload_n 0, 1, 0, 0), (.getfield 71, 3, 11, 45), (.iload 5, 2, 0, 0), (.dup2, 1, 0, 0), (.iaload, 1, 0, 0), (.aload_n 0, 1, 0, 0), (.getfield 56, 3, 11, 35), (.iload 5, 2, 0, 0), (.iaload, 1, 0, 0), (.aload_n 0, 1, 0, 0), (.getfield 74, 3, 11, 46), (.iload 5, 2, 0, 0), (.iaload, 1, 0, 0), (.if_icmp .eq 7, 3, 103, 0), (.iconst 1, 1, 1, 0), (.goto 4, 3, 104, 0)]
def kb_297_103 : List pb_El := [(.iconst 0, 1, 0, 0)]
def kb_297_104 : List pb_El := [(.iadd, 1, 0, 0), (.iastore, 1, 0, 0), (.iinc 5 1, 3, 1, 0), (.goto (-42), 3, 67, 0)]
def kb_297_112 : List pb_El := [(.aload_n 0, 1, 0, 0), (.aload_n 0, 1, 0, 0), (.getfield 498, 3, 11, 47), (.iconst (-1), 1, 1, 1), (.if_icmp .ne 16, 3, 134, 0), (.aload_n 0, 1, 0, 0), (.getfield 246, 3, 11, 27), (.bipush 6, 2, 6, 0), (.if_icmp .ge 7, 3, 134, 0), (.iload_n 1, 1, 0, 0), (.goto 7, 3, 138, 0)]
def kb_297_134 : List pb_El := [(.aload_n 0, 1, 0, 0), (.getfield 498, 3, 11, 47)]
def kb_297_138 : List pb_El := [(.putfield 498, 3, 11, 47), (.aload_n 0, 1, 0, 0), (.dup, 1, 0, 0), (.getfield 501, 3, 11, 48), (.aload_n 0, 1, 0, 0), (.getfield 246, 3, 11, 27), (.iload_n 2, 1, 0, 0), (.if_icmp .eq 7, 3, 158, 0), (.iconst 1, 1, 1, 0), (.goto 4, 3, 159, 0)]
def kb_297_158 : List pb_El := [(.iconst 0, 1, 0, 0)]
def kb_297_159 : List pb_El := [(.iadd, 1, 0, 0), (.putfield 501, 3, 11, 48), (.aload_n 0, 1, 0, 0), (.dup, 1, 0, 0), (.getfield 504, 3, 11, 49), (.aload_n 0, 1, 0, 0), (.invokevirtual 492, 3, 295, 1), (.iload_n 3, 1, 0, 0), (.if_icmp .le 7, 3, 180, 0), (.iconst 1, 1, 1, 0), (.goto 4, 3, 181, 0)]
def kb_297_180 : List pb_El := [(.iconst 0, 1, 0, 0)]
def kb_297_181 : List pb_El := [(.iadd, 1, 0, 0), (.putfield 504, 3, 11, 49), (.aload_n 0, 1, 0, 0), (.dup, 1, 0, 0), (.getfield 507, 3, 11, 50), (.aload_n 0, 1, 0, 0), (.invokevirtual 495, 3, 296, 1), (.iload 4, 2, 0, 0), (.if_icmp .le 7, 3, 203, 0), (.iconst 1, 1, 1, 0), (.goto 4, 3, 204, 0)]
def kb_297_203 : List pb_El := [(.iconst 0, 1, 0, 0)]
def kb_297_204 : List pb_El := [(.iadd, 1, 0, 0), (.putfield 507, 3, 11, 50), (.aload_n 0, 1, 0, 0), (.iload_n 1, 1, 0, 0), (.iconst 0, 1, 0, 0), (.invokevirtual 294, 3, 213, 3), (.bipush 6, 2, 6, 0), (.if_icmp .ne 19, 3, 235, 0), (.iload_n 2, 1, 0, 0), (.bipush 6, 2, 6, 0), (.if_icmp .ge 13, 3, 235, 0), (.aload_n 0, 1, 0, 0), (.getfield 68, 3, 11, 44), (.iload_n 2, 1, 0, 0), (.dup2, 1, 0, 0), (.iaload, 1, 0, 0), (.iconst 1, 1, 1, 0), (.iadd, 1, 0, 0), (.iastore, 1, 0, 0)]
def kb_297_235 : List pb_El := [(.iconst 1, 1, 1, 0), (.ireturn, 1, 0, 0)]
/-- PointedBenchModel.looks(I)Z -/
def kc_297 : List (Nat × List pb_El) := [(0, kb_297_0), (23, kb_297_23), (50, kb_297_50), (60, kb_297_60), (67, kb_297_67), (103, kb_297_103), (104, kb_297_104), (112, kb_297_112), (134, kb_297_134), (138, kb_297_138), (158, kb_297_158), (159, kb_297_159), (180, kb_297_180), (181, kb_297_181), (203, kb_297_203), (204, kb_297_204), (235, kb_297_235)]
def kb_298_0 : List pb_El := [(.iconst (-1), 1, 1, 1), (.istore_n 1, 1, 0, 0), (.iconst 0, 1, 0, 0), (.istore_n 2, 1, 0, 0), (.iconst 0, 1, 0, 0), (.istore_n 3, 1, 0, 0)]
def kb_298_6 : List pb_El := [(.iload_n 3, 1, 0, 0), (.bipush 6, 2, 6, 0), (.if_icmp .ge 30, 3, 39, 0), (.aload_n 0, 1, 0, 0), (.iload_n 3, 1, 0, 0), (.iaload, 1, 0, 0), (.iload_n 2, 1, 0, 0), (.if_icmp .le 7, 3, 23, 0), (.iload_n 3, 1, 0, 0), (.goto 4, 3, 24, 0)]
def kb_298_23 : List pb_El := [(.iload_n 1, 1, 0, 0)]
def kb_298_24 : List pb_El := [(.istore_n 1, 1, 0, 0), (.iload_n 2, 1, 0, 0), (.aload_n 0, 1, 0, 0), (.iload_n 3, 1, 0, 0), (.iaload, 1, 0, 0), (.invokestatic 175, 3, 170, 2), (.istore_n 2, 1, 0, 0), (.iinc 3 1, 3, 1, 0), (.goto (-30), 3, 6, 0)]
def kb_298_39 : List pb_El := [(.iload_n 1, 1, 0, 0), (.ireturn, 1, 0, 0)]
/-- PointedBenchModel.mostOf([I)I -/
def kc_298 : List (Nat × List pb_El) := [(0, kb_298_0), (6, kb_298_6), (23, kb_298_23), (24, kb_298_24), (39, kb_298_39)]
def kb_299_0 : List pb_El := [(.aload_n 0, 1, 0, 0), (.iconst 0, 1, 0, 0), (.putfield 81, 3, 11, 0), (.aload_n 0, 1, 0, 0), (.iload_n 1, 1, 0, 0), (.iload_n 2, 1, 0, 0), (.invokevirtual 325, 3, 223, 3), (.ifCond .eq 12, 3, 23, 0), (.iload_n 3, 1, 0, 0), (.iconst 0, 1, 0, 0), (.iconst 5, 1, 5, 0), (.invokestatic 93, 3, 168, 3), (.ifCond .ne 6, 3, 26, 0)]
def kb_299_23 : List pb_El := [(.bipush (-2), 2, 2, 1), (.ireturn, 1, 0, 0)]
def kb_299_26 : List pb_El := [(.aload_n 0, 1, 0, 0), (.iconst (-1), 1, 1, 1), (.putfield 498, 3, 11, 47), (.aload_n 0, 1, 0, 0), (.iconst 0, 1, 0, 0), (.putfield 501, 3, 11, 48), (.aload_n 0, 1, 0, 0), (.iconst 0, 1, 0, 0), (.putfield 504, 3, 11, 49), (.aload_n 0, 1, 0, 0), (.iconst 0, 1, 0, 0), (.putfield 507, 3, 11, 50), (.iconst 0, 1, 0, 0), (.istore 4, 2, 0, 0)]
def kb_299_49 : List pb_El := [(.iload 4, 2, 0, 0), (.bipush 6, 2, 6, 0), (.if_icmp .ge 25, 3, 78, 0), (.aload_n 0, 1, 0, 0), (.getfield 68, 3, 11, 44), (.iload 4, 2, 0, 0), (.iconst 0, 1, 0, 0), (.iastore, 1, 0, 0), (.aload_n 0, 1, 0, 0), (.getfield 71, 3, 11, 45), (.iload 4, 2, 0, 0), (.iconst 0, 1, 0, 0), (.iastore, 1, 0, 0), (.iinc 4 1, 3, 1, 0), (.goto (-26), 3, 49, 0)]
def kb_299_78 : List pb_El := [(.iconst 0, 1, 0, 0), (.istore 4, 2, 0, 0)]
def kb_299_81 : List pb_El := [(.iload 4, 2, 0, 0), (.aload_n 0, 1, 0, 0), (.invokevirtual 291, 3, 212, 1), (.if_icmp .ge 18, 3, 105, 0), (.aload_n 0, 1, 0, 0), (.iload 4, 2, 0, 0), (.invokevirtual 510, 3, 297, 2), (.ifCond .eq 9, 3, 105, 0), (.iinc 4 1, 3, 1, 0), (.goto (-21), 3, 81, 0)]
def kb_299_105 : List pb_El := [(.iload_n 3, 1, 0, 0), (.tableswitch 65 0 4 #[34, 39, 44, 52, 60], 34, 0, 0)]
def kb_299_140 : List pb_El := [(.aload_n 0, 1, 0, 0), (.getfield 498, 3, 11, 47), (.ireturn, 1, 0, 0)]
def kb_299_145 : List pb_El := [(.aload_n 0, 1, 0, 0), (.getfield 501, 3, 11, 48), (.ireturn, 1, 0, 0)]
def kb_299_150 : List pb_El := [(.aload_n 0, 1, 0, 0), (.getfield 68, 3, 11, 44), (.invokestatic 513, 3, 298, 1), (.ireturn, 1, 0, 0)]
def kb_299_158 : List pb_El := [(.aload_n 0, 1, 0, 0), (.getfield 71, 3, 11, 45), (.invokestatic 513, 3, 298, 1), (.ireturn, 1, 0, 0)]
def kb_299_166 : List pb_El := [(.aload_n 0, 1, 0, 0), (.getfield 504, 3, 11, 49), (.ireturn, 1, 0, 0)]
def kb_299_171 : List pb_El := [(.aload_n 0, 1, 0, 0), (.getfield 507, 3, 11, 50), (.ireturn, 1, 0, 0)]
/-- PointedBenchModel.after(III)I -/
def kc_299 : List (Nat × List pb_El) := [(0, kb_299_0), (23, kb_299_23), (26, kb_299_26), (49, kb_299_49), (78, kb_299_78), (81, kb_299_81), (105, kb_299_105), (140, kb_299_140), (145, kb_299_145), (150, kb_299_150), (158, kb_299_158), (166, kb_299_166), (171, kb_299_171)]
def kb_300_0 : List pb_El := [(.aload_n 0, 1, 0, 0), (.iconst 0, 1, 0, 0), (.putfield 81, 3, 11, 0), (.iload_n 2, 1, 0, 0), (.iconst 0, 1, 0, 0), (.bipush 63, 2, 63, 0), (.invokestatic 93, 3, 168, 3), (.ifCond .eq 28, 3, 40, 0), (.iload_n 3, 1, 0, 0), (.iconst 0, 1, 0, 0), (.bipush 63, 2, 63, 0), (.invokestatic 93, 3, 168, 3), (.ifCond .eq 18, 3, 40, 0), (.aload_n 0, 1, 0, 0), (.iload_n 1, 1, 0, 0), (.invokevirtual 412, 3, 251, 2), (.ifCond .eq 10, 3, 40, 0), (.aload_n 0, 1, 0, 0), (.getfield 402, 3, 11, 41), (.ifCond .ne 7, 3, 44, 0)]
def kb_300_40 : List pb_El := [(.ldc2_w 351, 3, 0, 0), (.lreturn, 1, 0, 0)]
def kb_300_44 : List pb_El := [(.aload_n 0, 1, 0, 0), (.iload_n 2, 1, 0, 0), (.iload_n 3, 1, 0, 0), (.invokevirtual 409, 3, 252, 3), (.i2l, 1, 0, 0), (.aload_n 0, 1, 0, 0), (.getfield 402, 3, 11, 41), (.i2l, 1, 0, 0), (.iload 4, 2, 0, 0), (.invokestatic 359, 3, 233, 3), (.lreturn, 1, 0, 0)]
/-- PointedBenchModel.odds(IIIZ)J -/
def kc_300 : List (Nat × List pb_El) := [(0, kb_300_0), (40, kb_300_40), (44, kb_300_44)]
def kb_301_0 : List pb_El := [(.aload_n 0, 1, 0, 0), (.iconst 0, 1, 0, 0), (.putfield 81, 3, 11, 0), (.aload_n 0, 1, 0, 0), (.iload_n 1, 1, 0, 0), (.invokevirtual 412, 3, 251, 2), (.ifCond .eq 10, 3, 20, 0), (.aload_n 0, 1, 0, 0), (.getfield 402, 3, 11, 41), (.ifCond .ne 5, 3, 22, 0)]
def kb_301_20 : List pb_El := [(.iconst (-1), 1, 1, 1), (.ireturn, 1, 0, 0)]
def kb_301_22 : List pb_El := [(.aload_n 0, 1, 0, 0), (.getfield 62, 3, 11, 40), (.iconst 0, 1, 0, 0), (.iaload, 1, 0, 0), (.bipush 63, 2, 63, 0), (.invokestatic 396, 3, 248, 2), (.istore_n 3, 1, 0, 0), (.iconst 0, 1, 0, 0), (.istore 4, 2, 0, 0)]
def kb_301_37 : List pb_El := [(.iload 4, 2, 0, 0), (.aload_n 0, 1, 0, 0), (.getfield 402, 3, 11, 41), (.if_icmp .ge 43, 3, 86, 0), (.aload_n 0, 1, 0, 0), (.getfield 62, 3, 11, 40), (.iload 4, 2, 0, 0), (.iaload, 1, 0, 0), (.bipush 63, 2, 63, 0), (.invokestatic 396, 3, 248, 2), (.istore 5, 2, 0, 0), (.iload_n 2, 1, 0, 0), (.ifCond .eq 12, 3, 73, 0), (.iload_n 3, 1, 0, 0), (.iload 5, 2, 0, 0), (.invokestatic 175, 3, 170, 2), (.goto 9, 3, 79, 0)]
def kb_301_73 : List pb_El := [(.iload_n 3, 1, 0, 0), (.iload 5, 2, 0, 0), (.invokestatic 297, 3, 171, 2)]
def kb_301_79 : List pb_El := [(.istore_n 3, 1, 0, 0), (.iinc 4 1, 3, 1, 0), (.goto (-46), 3, 37, 0)]
def kb_301_86 : List pb_El := [(.iload_n 3, 1, 0, 0), (.ireturn, 1, 0, 0)]
/-- PointedBenchModel.low(IZ)I -/
def kc_301 : List (Nat × List pb_El) := [(0, kb_301_0), (20, kb_301_20), (22, kb_301_22), (37, kb_301_37), (73, kb_301_73), (79, kb_301_79), (86, kb_301_86)]
def kb_302_0 : List pb_El := [(.aload_n 0, 1, 0, 0), (.iconst 0, 1, 0, 0), (.putfield 81, 3, 11, 0), (.iload_n 1, 1, 0, 0), (.iconst 0, 1, 0, 0), (.iconst 2, 1, 2, 0), (.invokestatic 93, 3, 168, 3), (.ifCond .eq 12, 3, 23, 0), (.aload_n 0, 1, 0, 0), (.getfield 23, 3, 11, 5), (.iload_n 1, 1, 0, 0), (.iaload, 1, 0, 0), (.goto 5, 3, 25, 0)]
def kb_302_23 : List pb_El := [(.bipush (-2), 2, 2, 1)]
def kb_302_25 : List pb_El := [(.ireturn, 1, 0, 0)]
/-- PointedBenchModel.count(I)I -/
def kc_302 : List (Nat × List pb_El) := [(0, kb_302_0), (23, kb_302_23), (25, kb_302_25)]
def kb_303_0 : List pb_El := [(.aload_n 0, 1, 0, 0), (.iconst 0, 1, 0, 0), (.putfield 81, 3, 11, 0), (.iload_n 1, 1, 0, 0), (.iconst 0, 1, 0, 0), (.iconst 2, 1, 2, 0), (.invokestatic 93, 3, 168, 3), (.ifCond .ne 5, 3, 16, 0), (.iconst 0, 1, 0, 0), (.ireturn, 1, 0, 0)]
def kb_303_16 : List pb_El := [(.aload_n 0, 1, 0, 0), (.iconst 0, 1, 0, 0), (.iload_n 1, 1, 0, 0), (.iconst 1, 1, 1, 0), (.iadd, 1, 0, 0), (.invokevirtual 517, 3, 174, 3), (.aload_n 0, 1, 0, 0), (.getfield 77, 3, 11, 51), (.iload_n 1, 1, 0, 0), (.iconst 1, 1, 1, 0), (.bastore, 1, 14, 0), (.iconst 1, 1, 1, 0), (.ireturn, 1, 0, 0)]
/-- PointedBenchModel.image(I)Z -/
def kc_303 : List (Nat × List pb_El) := [(0, kb_303_0), (16, kb_303_16)]
def kb_304_0 : List pb_El := [(.aload_n 0, 1, 0, 0), (.iconst 0, 1, 0, 0), (.putfield 81, 3, 11, 0), (.iload_n 1, 1, 0, 0), (.iconst 0, 1, 0, 0), (.iconst 2, 1, 2, 0), (.invokestatic 93, 3, 168, 3), (.ifCond .eq 12, 3, 23, 0), (.aload_n 0, 1, 0, 0), (.getfield 77, 3, 11, 51), (.iload_n 1, 1, 0, 0), (.baload, 1, 14, 0), (.ifCond .ne 5, 3, 25, 0)]
def kb_304_23 : List pb_El := [(.iconst 0, 1, 0, 0), (.ireturn, 1, 0, 0)]
def kb_304_25 : List pb_El := [(.aload_n 0, 1, 0, 0), (.iload_n 1, 1, 0, 0), (.iconst 1, 1, 1, 0), (.iadd, 1, 0, 0), (.iconst 0, 1, 0, 0), (.invokevirtual 517, 3, 174, 3), (.iconst 1, 1, 1, 0), (.ireturn, 1, 0, 0)]
/-- PointedBenchModel.again(I)Z -/
def kc_304 : List (Nat × List pb_El) := [(0, kb_304_0), (23, kb_304_23), (25, kb_304_25)]
def kb_305_0 : List pb_El := [(.iload_n 0, 1, 0, 0), (.iload_n 0, 1, 0, 0), (.iconst 1, 1, 1, 0), (.iushr, 1, 0, 0), (.ldc_w 265, 3, 2, 0), (.iand, 1, 0, 0), (.isub, 1, 0, 0), (.istore_n 0, 1, 0, 0), (.iload_n 0, 1, 0, 0), (.ldc_w 266, 3, 3, 0), (.iand, 1, 0, 0), (.iload_n 0, 1, 0, 0), (.iconst 2, 1, 2, 0), (.iushr, 1, 0, 0), (.ldc_w 266, 3, 3, 0), (.iand, 1, 0, 0), (.iadd, 1, 0, 0), (.istore_n 0, 1, 0, 0), (.iload_n 0, 1, 0, 0), (.iload_n 0, 1, 0, 0), (.iconst 4, 1, 4, 0), (.iushr, 1, 0, 0), (.iadd, 1, 0, 0), (.ldc_w 267, 3, 4, 0), (.iand, 1, 0, 0), (.istore_n 0, 1, 0, 0), (.iload_n 0, 1, 0, 0), (.iload_n 0, 1, 0, 0), (.bipush 8, 2, 8, 0), (.iushr, 1, 0, 0), (.iadd, 1, 0, 0), (.istore_n 0, 1, 0, 0), (.iload_n 0, 1, 0, 0), (.iload_n 0, 1, 0, 0), (.bipush 16, 2, 16, 0), (.iushr, 1, 0, 0), (.iadd, 1, 0, 0), (.istore_n 0, 1, 0, 0), (.iload_n 0, 1, 0, 0), (.bipush 63, 2, 63, 0), (.iand, 1, 0, 0), (.ireturn, 1, 0, 0)]
/-- java/lang/Integer.bitCount(I)I -/
def kc_305 : List (Nat × List pb_El) := [(0, kb_305_0)]
def kb_306_0 : List pb_El := [(.iconst 0, 1, 0, 0), (.istore_n 2, 1, 0, 0), (.aload_n 0, 1, 0, 0), (.arraylength, 1, 12, 0), (.istore_n 3, 1, 0, 0)]
def kb_306_5 : List pb_El := [(.iload_n 2, 1, 0, 0), (.iload_n 3, 1, 0, 0), (.if_icmp .ge 13, 3, 20, 0), (.aload_n 0, 1, 0, 0), (.iload_n 2, 1, 0, 0), (.iload_n 1, 1, 0, 0), (.iastore, 1, 0, 0), (.iinc 2 1, 3, 1, 0), (.goto (-12), 3, 5, 0)]
def kb_306_20 : List pb_El := [(.return_, 1, 0, 0)]
/-- java/util/Arrays.fill([II)V -/
def kc_306 : List (Nat × List pb_El) := [(0, kb_306_0), (5, kb_306_5), (20, kb_306_20)]
def kb_307_0 : List pb_El := [(.new 7, 3, 10, 0), (.dup, 1, 0, 0), (.invokespecial 9, 3, 123, 1), (.astore_n 1, 1, 0, 0), (.new 10, 3, 11, 0), (.dup, 1, 0, 0), (.invokespecial 12, 3, 167, 1), (.astore_n 2, 1, 0, 0), (.iconst 0, 1, 0, 0), (.istore_n 3, 1, 0, 0)]
def kb_307_18 : List pb_El := [(.iload_n 3, 1, 0, 0), (.aload_n 0, 1, 0, 0), (.arraylength, 1, 12, 0), (.bipush 6, 2, 6, 0), (.isub, 1, 0, 0), (.if_icmp .gt 1988, 3, 2012, 0), (.aload_n 0, 1, 0, 0), (.iload_n 3, 1, 0, 0), (.iaload, 1, 0, 0), (.bipush 63, 2, 63, 0), (.iand, 1, 0, 0), (.tableswitch 1973 0 39 #[175, 238, 261, 294, 317, 350, 393, 426, 479, 512, 571, 630, 690, 739, 818, 914, 957, 990, 1043, 1086, 1119, 1152, 1195, 1244, 1277, 1310, 1370, 1413, 1446, 1489, 1522, 1591, 1624, 1683, 1742, 1785, 1855, 1904, 1927, 1950], 175, 0, 0)]
def kb_307_208 : List pb_El := [(.aload_n 1, 1, 0, 0), (.aload_n 0, 1, 0, 0), (.iload_n 3, 1, 0, 0), (.iconst 1, 1, 1, 0), (.iadd, 1, 0, 0), (.iaload, 1, 0, 0), (.aload_n 0, 1, 0, 0), (.iload_n 3, 1, 0, 0), (.iconst 2, 1, 2, 0), (.iadd, 1, 0, 0), (.iaload, 1, 0, 0), (.aload_n 0, 1, 0, 0), (.iload_n 3, 1, 0, 0), (.iconst 3, 1, 3, 0), (.iadd, 1, 0, 0), (.iaload, 1, 0, 0), (.aload_n 0, 1, 0, 0), (.iload_n 3, 1, 0, 0), (.iconst 4, 1, 4, 0), (.iadd, 1, 0, 0), (.iaload, 1, 0, 0), (.aload_n 0, 1, 0, 0), (.iload_n 3, 1, 0, 0), (.iconst 5, 1, 5, 0), (.iadd, 1, 0, 0), (.iaload, 1, 0, 0), (.invokevirtual 13, 3, 124, 6), (.aload_n 2, 1, 0, 0), (.aload_n 0, 1, 0, 0), (.iload_n 3, 1, 0, 0), (.iconst 1, 1, 1, 0), (.iadd, 1, 0, 0), (.iaload, 1, 0, 0), (.aload_n 0, 1, 0, 0), (.iload_n 3, 1, 0, 0), (.iconst 2, 1, 2, 0), (.iadd, 1, 0, 0), (.iaload, 1, 0, 0), (.aload_n 0, 1, 0, 0), (.iload_n 3, 1, 0, 0), (.iconst 3, 1, 3, 0), (.iadd, 1, 0, 0), (.iaload, 1, 0, 0), (.aload_n 0, 1, 0, 0), (.iload_n 3, 1, 0, 0), (.iconst 4, 1, 4, 0), (.iadd, 1, 0, 0), (.iaload, 1, 0, 0), (.aload_n 0, 1, 0, 0), (.iload_n 3, 1, 0, 0), (.iconst 5, 1, 5, 0), (.iadd, 1, 0, 0), (.iaload, 1, 0, 0), (.invokevirtual 17, 3, 176, 6), (.if_icmp .eq 1740, 3, 2006, 0), (.iconst 0, 1, 0, 0), (.ireturn, 1, 0, 0)]
def kb_307_271 : List pb_El := [(.aload_n 1, 1, 0, 0), (.aload_n 0, 1, 0, 0), (.iload_n 3, 1, 0, 0), (.iconst 1, 1, 1, 0), (.iadd, 1, 0, 0), (.iaload, 1, 0, 0), (.invokevirtual 18, 3, 125, 2), (.aload_n 2, 1, 0, 0), (.aload_n 0, 1, 0, 0), (.iload_n 3, 1, 0, 0), (.iconst 1, 1, 1, 0), (.iadd, 1, 0, 0), (.iaload, 1, 0, 0), (.invokevirtual 22, 3, 178, 2), (.if_icmp .eq 1717, 3, 2006, 0), (.iconst 0, 1, 0, 0), (.ireturn, 1, 0, 0)]
def kb_307_294 : List pb_El := [(.aload_n 1, 1, 0, 0), (.aload_n 0, 1, 0, 0), (.iload_n 3, 1, 0, 0), (.iconst 1, 1, 1, 0), (.iadd, 1, 0, 0), (.iaload, 1, 0, 0), (.aload_n 0, 1, 0, 0), (.iload_n 3, 1, 0, 0), (.iconst 2, 1, 2, 0), (.iadd, 1, 0, 0), (.iaload, 1, 0, 0), (.invokevirtual 23, 3, 126, 3), (.aload_n 2, 1, 0, 0), (.aload_n 0, 1, 0, 0), (.iload_n 3, 1, 0, 0), (.iconst 1, 1, 1, 0), (.iadd, 1, 0, 0), (.iaload, 1, 0, 0), (.aload_n 0, 1, 0, 0), (.iload_n 3, 1, 0, 0), (.iconst 2, 1, 2, 0), (.iadd, 1, 0, 0), (.iaload, 1, 0, 0), (.invokevirtual 27, 3, 195, 3), (.if_icmp .eq 1684, 3, 2006, 0), (.iconst 0, 1, 0, 0), (.ireturn, 1, 0, 0)]
def kb_307_327 : List pb_El := [(.aload_n 1, 1, 0, 0), (.aload_n 0, 1, 0, 0), (.iload_n 3, 1, 0, 0), (.iconst 1, 1, 1, 0), (.iadd, 1, 0, 0), (.iaload, 1, 0, 0), (.invokevirtual 28, 3, 127, 2), (.aload_n 2, 1, 0, 0), (.aload_n 0, 1, 0, 0), (.iload_n 3, 1, 0, 0), (.iconst 1, 1, 1, 0), (.iadd, 1, 0, 0), (.iaload, 1, 0, 0), (.invokevirtual 31, 3, 196, 2), (.if_icmp .eq 1661, 3, 2006, 0), (.iconst 0, 1, 0, 0), (.ireturn, 1, 0, 0)]
def kb_307_350 : List pb_El := [(.aload_n 1, 1, 0, 0), (.aload_n 0, 1, 0, 0), (.iload_n 3, 1, 0, 0), (.iconst 1, 1, 1, 0), (.iadd, 1, 0, 0), (.iaload, 1, 0, 0), (.aload_n 0, 1, 0, 0), (.iload_n 3, 1, 0, 0), (.iconst 2, 1, 2, 0), (.iadd, 1, 0, 0), (.iaload, 1, 0, 0), (.invokevirtual 32, 3, 128, 3), (.aload_n 2, 1, 0, 0), (.aload_n 0, 1, 0, 0), (.iload_n 3, 1, 0, 0), (.iconst 1, 1, 1, 0), (.iadd, 1, 0, 0), (.iaload, 1, 0, 0), (.aload_n 0, 1, 0, 0), (.iload_n 3, 1, 0, 0), (.iconst 2, 1, 2, 0), (.iadd, 1, 0, 0), (.iaload, 1, 0, 0), (.invokevirtual 35, 3, 211, 3), (.if_icmp .eq 1628, 3, 2006, 0), (.iconst 0, 1, 0, 0), (.ireturn, 1, 0, 0)]
def kb_307_383 : List pb_El := [(.aload_n 1, 1, 0, 0), (.aload_n 0, 1, 0, 0), (.iload_n 3, 1, 0, 0), (.iconst 1, 1, 1, 0), (.iadd, 1, 0, 0), (.iaload, 1, 0, 0), (.aload_n 0, 1, 0, 0), (.iload_n 3, 1, 0, 0), (.iconst 2, 1, 2, 0), (.iadd, 1, 0, 0), (.iaload, 1, 0, 0), (.aload_n 0, 1, 0, 0), (.iload_n 3, 1, 0, 0), (.iconst 3, 1, 3, 0), (.iadd, 1, 0, 0), (.iaload, 1, 0, 0), (.invokevirtual 36, 3, 129, 4), (.aload_n 2, 1, 0, 0), (.aload_n 0, 1, 0, 0), (.iload_n 3, 1, 0, 0), (.iconst 1, 1, 1, 0), (.iadd, 1, 0, 0), (.iaload, 1, 0, 0), (.aload_n 0, 1, 0, 0), (.iload_n 3, 1, 0, 0), (.iconst 2, 1, 2, 0), (.iadd, 1, 0, 0), (.iaload, 1, 0, 0), (.aload_n 0, 1, 0, 0), (.iload_n 3, 1, 0, 0), (.iconst 3, 1, 3, 0), (.iadd, 1, 0, 0), (.iaload, 1, 0, 0), (.invokevirtual 40, 3, 215, 4), (.if_icmp .eq 1585, 3, 2006, 0), (.iconst 0, 1, 0, 0), (.ireturn, 1, 0, 0)]
def kb_307_426 : List pb_El := [(.aload_n 1, 1, 0, 0), (.aload_n 0, 1, 0, 0), (.iload_n 3, 1, 0, 0), (.iconst 1, 1, 1, 0), (.iadd, 1, 0, 0), (.iaload, 1, 0, 0), (.aload_n 0, 1, 0, 0), (.iload_n 3, 1, 0, 0), (.iconst 2, 1, 2, 0), (.iadd, 1, 0, 0), (.iaload, 1, 0, 0), (.invokevirtual 41, 3, 130, 3), (.aload_n 2, 1, 0, 0), (.aload_n 0, 1, 0, 0), (.iload_n 3, 1, 0, 0), (.iconst 1, 1, 1, 0), (.iadd, 1, 0, 0), (.iaload, 1, 0, 0), (.aload_n 0, 1, 0, 0), (.iload_n 3, 1, 0, 0), (.iconst 2, 1, 2, 0), (.iadd, 1, 0, 0), (.iaload, 1, 0, 0), (.invokevirtual 44, 3, 224, 3), (.if_icmp .eq 1552, 3, 2006, 0), (.iconst 0, 1, 0, 0), (.ireturn, 1, 0, 0)]
def kb_307_459 : List pb_El := [(.aload_n 1, 1, 0, 0), (.aload_n 0, 1, 0, 0), (.iload_n 3, 1, 0, 0), (.iconst 1, 1, 1, 0), (.iadd, 1, 0, 0), (.iaload, 1, 0, 0), (.aload_n 0, 1, 0, 0), (.iload_n 3, 1, 0, 0), (.iconst 2, 1, 2, 0), (.iadd, 1, 0, 0), (.iaload, 1, 0, 0), (.aload_n 0, 1, 0, 0), (.iload_n 3, 1, 0, 0), (.iconst 3, 1, 3, 0), (.iadd, 1, 0, 0), (.iaload, 1, 0, 0), (.aload_n 0, 1, 0, 0), (.iload_n 3, 1, 0, 0), (.iconst 4, 1, 4, 0), (.iadd, 1, 0, 0), (.iaload, 1, 0, 0), (.invokevirtual 45, 3, 131, 5), (.aload_n 2, 1, 0, 0), (.aload_n 0, 1, 0, 0), (.iload_n 3, 1, 0, 0), (.iconst 1, 1, 1, 0), (.iadd, 1, 0, 0), (.iaload, 1, 0, 0), (.aload_n 0, 1, 0, 0), (.iload_n 3, 1, 0, 0), (.iconst 2, 1, 2, 0), (.iadd, 1, 0, 0), (.iaload, 1, 0, 0), (.aload_n 0, 1, 0, 0), (.iload_n 3, 1, 0, 0), (.iconst 3, 1, 3, 0), (.iadd, 1, 0, 0), (.iaload, 1, 0, 0), (.aload_n 0, 1, 0, 0), (.iload_n 3, 1, 0, 0), (.iconst 4, 1, 4, 0), (.iadd, 1, 0, 0), (.iaload, 1, 0, 0), (.invokevirtual 49, 3, 227, 5), (.if_icmp .eq 1499, 3, 2006, 0), (.iconst 0, 1, 0, 0), (.ireturn, 1, 0, 0)]
def kb_307_512 : List pb_El := [(.aload_n 1, 1, 0, 0), (.aload_n 0, 1, 0, 0), (.iload_n 3, 1, 0, 0), (.iconst 1, 1, 1, 0), (.iadd, 1, 0, 0), (.iaload, 1, 0, 0), (.aload_n 0, 1, 0, 0), (.iload_n 3, 1, 0, 0), (.iconst 2, 1, 2, 0), (.iadd, 1, 0, 0), (.iaload, 1, 0, 0), (.invokevirtual 50, 3, 132, 3), (.aload_n 2, 1, 0, 0), (.aload_n 0, 1, 0, 0), (.iload_n 3, 1, 0, 0), (.iconst 1, 1, 1, 0), (.iadd, 1, 0, 0), (.iaload, 1, 0, 0), (.aload_n 0, 1, 0, 0), (.iload_n 3, 1, 0, 0), (.iconst 2, 1, 2, 0), (.iadd, 1, 0, 0), (.iaload, 1, 0, 0), (.invokevirtual 53, 3, 228, 3), (.if_icmp .eq 1466, 3, 2006, 0), (.iconst 0, 1, 0, 0), (.ireturn, 1, 0, 0)]
def kb_307_545 : List pb_El := [(.aload_n 1, 1, 0, 0), (.aload_n 0, 1, 0, 0), (.iload_n 3, 1, 0, 0), (.iconst 1, 1, 1, 0), (.iadd, 1, 0, 0), (.iaload, 1, 0, 0), (.aload_n 0, 1, 0, 0), (.iload_n 3, 1, 0, 0), (.iconst 2, 1, 2, 0), (.iadd, 1, 0, 0), (.iaload, 1, 0, 0), (.aload_n 0, 1, 0, 0), (.iload_n 3, 1, 0, 0), (.iconst 3, 1, 3, 0), (.iadd, 1, 0, 0), (.iaload, 1, 0, 0), (.ifCond .eq 7, 3, 568, 0), (.iconst 1, 1, 1, 0), (.goto 4, 3, 569, 0)]
def kb_307_568 : List pb_El := [(.iconst 0, 1, 0, 0)]
def kb_307_569 : List pb_El := [(.invokevirtual 54, 3, 133, 4), (.aload_n 2, 1, 0, 0), (.aload_n 0, 1, 0, 0), (.iload_n 3, 1, 0, 0), (.iconst 1, 1, 1, 0), (.iadd, 1, 0, 0), (.iaload, 1, 0, 0), (.aload_n 0, 1, 0, 0), (.iload_n 3, 1, 0, 0), (.iconst 2, 1, 2, 0), (.iadd, 1, 0, 0), (.iaload, 1, 0, 0), (.aload_n 0, 1, 0, 0), (.iload_n 3, 1, 0, 0), (.iconst 3, 1, 3, 0), (.iadd, 1, 0, 0), (.iaload, 1, 0, 0), (.ifCond .eq 7, 3, 595, 0), (.iconst 1, 1, 1, 0), (.goto 4, 3, 596, 0)]
def kb_307_595 : List pb_El := [(.iconst 0, 1, 0, 0)]
def kb_307_596 : List pb_El := [(.invokevirtual 58, 3, 229, 4), (.if_icmp .eq 1407, 3, 2006, 0), (.iconst 0, 1, 0, 0), (.ireturn, 1, 0, 0)]
def kb_307_604 : List pb_El := [(.aload_n 1, 1, 0, 0), (.aload_n 0, 1, 0, 0), (.iload_n 3, 1, 0, 0), (.iconst 1, 1, 1, 0), (.iadd, 1, 0, 0), (.iaload, 1, 0, 0), (.aload_n 0, 1, 0, 0), (.iload_n 3, 1, 0, 0), (.iconst 2, 1, 2, 0), (.iadd, 1, 0, 0), (.iaload, 1, 0, 0), (.aload_n 0, 1, 0, 0), (.iload_n 3, 1, 0, 0), (.iconst 3, 1, 3, 0), (.iadd, 1, 0, 0), (.iaload, 1, 0, 0), (.ifCond .eq 7, 3, 627, 0), (.iconst 1, 1, 1, 0), (.goto 4, 3, 628, 0)]
def kb_307_627 : List pb_El := [(.iconst 0, 1, 0, 0)]
def kb_307_628 : List pb_El := [(.invokevirtual 59, 3, 134, 4), (.aload_n 2, 1, 0, 0), (.aload_n 0, 1, 0, 0), (.iload_n 3, 1, 0, 0), (.iconst 1, 1, 1, 0), (.iadd, 1, 0, 0), (.iaload, 1, 0, 0), (.aload_n 0, 1, 0, 0), (.iload_n 3, 1, 0, 0), (.iconst 2, 1, 2, 0), (.iadd, 1, 0, 0), (.iaload, 1, 0, 0), (.aload_n 0, 1, 0, 0), (.iload_n 3, 1, 0, 0), (.iconst 3, 1, 3, 0), (.iadd, 1, 0, 0), (.iaload, 1, 0, 0), (.ifCond .eq 7, 3, 654, 0), (.iconst 1, 1, 1, 0), (.goto 4, 3, 655, 0)]
def kb_307_654 : List pb_El := [(.iconst 0, 1, 0, 0)]
def kb_307_655 : List pb_El := [(.invokevirtual 62, 3, 231, 4), (.if_icmp .eq 1348, 3, 2006, 0), (.iconst 0, 1, 0, 0), (.ireturn, 1, 0, 0)]
def kb_307_663 : List pb_El := [(.aload_n 1, 1, 0, 0), (.aload_n 0, 1, 0, 0), (.iload_n 3, 1, 0, 0), (.iconst 1, 1, 1, 0), (.iadd, 1, 0, 0), (.iaload, 1, 0, 0), (.aload_n 0, 1, 0, 0), (.iload_n 3, 1, 0, 0), (.iconst 2, 1, 2, 0), (.iadd, 1, 0, 0), (.iaload, 1, 0, 0), (.aload_n 0, 1, 0, 0), (.iload_n 3, 1, 0, 0), (.iconst 3, 1, 3, 0), (.iadd, 1, 0, 0), (.iaload, 1, 0, 0), (.ifCond .eq 7, 3, 686, 0), (.iconst 1, 1, 1, 0), (.goto 4, 3, 687, 0)]
def kb_307_686 : List pb_El := [(.iconst 0, 1, 0, 0)]
def kb_307_687 : List pb_El := [(.invokevirtual 63, 3, 135, 4), (.aload_n 2, 1, 0, 0), (.aload_n 0, 1, 0, 0), (.iload_n 3, 1, 0, 0), (.iconst 1, 1, 1, 0), (.iadd, 1, 0, 0), (.iaload, 1, 0, 0), (.aload_n 0, 1, 0, 0), (.iload_n 3, 1, 0, 0), (.iconst 2, 1, 2, 0), (.iadd, 1, 0, 0), (.iaload, 1, 0, 0), (.aload_n 0, 1, 0, 0), (.iload_n 3, 1, 0, 0), (.iconst 3, 1, 3, 0), (.iadd, 1, 0, 0), (.iaload, 1, 0, 0), (.ifCond .eq 7, 3, 713, 0), (.iconst 1, 1, 1, 0), (.goto 4, 3, 714, 0)]
def kb_307_713 : List pb_El := [(.iconst 0, 1, 0, 0)]
def kb_307_714 : List pb_El := [(.invokevirtual 67, 3, 235, 4), (.lcmp, 1, 0, 0), (.ifCond .eq 1288, 3, 2006, 0), (.iconst 0, 1, 0, 0), (.ireturn, 1, 0, 0)]
def kb_307_723 : List pb_El := [(.aload_n 1, 1, 0, 0), (.aload_n 0, 1, 0, 0), (.iload_n 3, 1, 0, 0), (.iconst 1, 1, 1, 0), (.iadd, 1, 0, 0), (.iaload, 1, 0, 0), (.aload_n 0, 1, 0, 0), (.iload_n 3, 1, 0, 0), (.iconst 2, 1, 2, 0), (.iadd, 1, 0, 0), (.iaload, 1, 0, 0), (.ifCond .eq 7, 3, 741, 0), (.iconst 1, 1, 1, 0), (.goto 4, 3, 742, 0)]
def kb_307_741 : List pb_El := [(.iconst 0, 1, 0, 0)]
def kb_307_742 : List pb_El := [(.invokevirtual 68, 3, 136, 3), (.aload_n 2, 1, 0, 0), (.aload_n 0, 1, 0, 0), (.iload_n 3, 1, 0, 0), (.iconst 1, 1, 1, 0), (.iadd, 1, 0, 0), (.iaload, 1, 0, 0), (.aload_n 0, 1, 0, 0), (.iload_n 3, 1, 0, 0), (.iconst 2, 1, 2, 0), (.iadd, 1, 0, 0), (.iaload, 1, 0, 0), (.ifCond .eq 7, 3, 763, 0), (.iconst 1, 1, 1, 0), (.goto 4, 3, 764, 0)]
def kb_307_763 : List pb_El := [(.iconst 0, 1, 0, 0)]
def kb_307_764 : List pb_El := [(.invokevirtual 72, 3, 237, 3), (.if_icmp .eq 1239, 3, 2006, 0), (.iconst 0, 1, 0, 0), (.ireturn, 1, 0, 0)]
def kb_307_772 : List pb_El := [(.aload_n 1, 1, 0, 0), (.aload_n 0, 1, 0, 0), (.iload_n 3, 1, 0, 0), (.iconst 1, 1, 1, 0), (.iadd, 1, 0, 0), (.iaload, 1, 0, 0), (.aload_n 0, 1, 0, 0), (.iload_n 3, 1, 0, 0), (.iconst 2, 1, 2, 0), (.iadd, 1, 0, 0), (.iaload, 1, 0, 0), (.aload_n 0, 1, 0, 0), (.iload_n 3, 1, 0, 0), (.iconst 3, 1, 3, 0), (.iadd, 1, 0, 0), (.iaload, 1, 0, 0), (.aload_n 0, 1, 0, 0), (.iload_n 3, 1, 0, 0), (.iconst 4, 1, 4, 0), (.iadd, 1, 0, 0), (.iaload, 1, 0, 0), (.aload_n 0, 1, 0, 0), (.iload_n 3, 1, 0, 0), (.iconst 5, 1, 5, 0), (.iadd, 1, 0, 0), (.iaload, 1, 0, 0), (.ifCond .eq 7, 3, 805, 0), (.iconst 1, 1, 1, 0), (.goto 4, 3, 806, 0)]
def kb_307_805 : List pb_El := [(.iconst 0, 1, 0, 0)]
def kb_307_806 : List pb_El := [(.invokevirtual 73, 3, 137, 6), (.aload_n 2, 1, 0, 0), (.aload_n 0, 1, 0, 0), (.iload_n 3, 1, 0, 0), (.iconst 1, 1, 1, 0), (.iadd, 1, 0, 0), (.iaload, 1, 0, 0), (.aload_n 0, 1, 0, 0), (.iload_n 3, 1, 0, 0), (.iconst 2, 1, 2, 0), (.iadd, 1, 0, 0), (.iaload, 1, 0, 0), (.aload_n 0, 1, 0, 0), (.iload_n 3, 1, 0, 0), (.iconst 3, 1, 3, 0), (.iadd, 1, 0, 0), (.iaload, 1, 0, 0), (.aload_n 0, 1, 0, 0), (.iload_n 3, 1, 0, 0), (.iconst 4, 1, 4, 0), (.iadd, 1, 0, 0), (.iaload, 1, 0, 0), (.aload_n 0, 1, 0, 0), (.iload_n 3, 1, 0, 0), (.iconst 5, 1, 5, 0), (.iadd, 1, 0, 0), (.iaload, 1, 0, 0), (.ifCond .eq 7, 3, 842, 0), (.iconst 1, 1, 1, 0), (.goto 4, 3, 843, 0)]
def kb_307_842 : List pb_El := [(.iconst 0, 1, 0, 0)]
def kb_307_843 : List pb_El := [(.invokevirtual 77, 3, 241, 6), (.if_icmp .eq 1160, 3, 2006, 0), (.iconst 0, 1, 0, 0), (.ireturn, 1, 0, 0)]
def kb_307_851 : List pb_El := [(.aload_n 1, 1, 0, 0), (.aload_n 0, 1, 0, 0), (.iload_n 3, 1, 0, 0), (.iconst 1, 1, 1, 0), (.iadd, 1, 0, 0), (.iaload, 1, 0, 0), (.aload_n 0, 1, 0, 0), (.iload_n 3, 1, 0, 0), (.iconst 2, 1, 2, 0), (.iadd, 1, 0, 0), (.iaload, 1, 0, 0), (.aload_n 0, 1, 0, 0), (.iload_n 3, 1, 0, 0), (.iconst 3, 1, 3, 0), (.iadd, 1, 0, 0), (.iaload, 1, 0, 0), (.aload_n 0, 1, 0, 0), (.iload_n 3, 1, 0, 0), (.iconst 4, 1, 4, 0), (.iadd, 1, 0, 0), (.iaload, 1, 0, 0), (.ifCond .eq 7, 3, 879, 0), (.iconst 1, 1, 1, 0), (.goto 4, 3, 880, 0)]
def kb_307_879 : List pb_El := [(.iconst 0, 1, 0, 0)]
def kb_307_880 : List pb_El := [(.aload_n 0, 1, 0, 0), (.iload_n 3, 1, 0, 0), (.iconst 5, 1, 5, 0), (.iadd, 1, 0, 0), (.iaload, 1, 0, 0), (.ifCond .eq 7, 3, 892, 0), (.iconst 1, 1, 1, 0), (.goto 4, 3, 893, 0)]
def kb_307_892 : List pb_El := [(.iconst 0, 1, 0, 0)]
def kb_307_893 : List pb_El := [(.invokevirtual 78, 3, 138, 6), (.aload_n 2, 1, 0, 0), (.aload_n 0, 1, 0, 0), (.iload_n 3, 1, 0, 0), (.iconst 1, 1, 1, 0), (.iadd, 1, 0, 0), (.iaload, 1, 0, 0), (.aload_n 0, 1, 0, 0), (.iload_n 3, 1, 0, 0), (.iconst 2, 1, 2, 0), (.iadd, 1, 0, 0), (.iaload, 1, 0, 0), (.aload_n 0, 1, 0, 0), (.iload_n 3, 1, 0, 0), (.iconst 3, 1, 3, 0), (.iadd, 1, 0, 0), (.iaload, 1, 0, 0), (.aload_n 0, 1, 0, 0), (.iload_n 3, 1, 0, 0), (.iconst 4, 1, 4, 0), (.iadd, 1, 0, 0), (.iaload, 1, 0, 0), (.ifCond .eq 7, 3, 924, 0), (.iconst 1, 1, 1, 0), (.goto 4, 3, 925, 0)]
def kb_307_924 : List pb_El := [(.iconst 0, 1, 0, 0)]
def kb_307_925 : List pb_El := [(.aload_n 0, 1, 0, 0), (.iload_n 3, 1, 0, 0), (.iconst 5, 1, 5, 0), (.iadd, 1, 0, 0), (.iaload, 1, 0, 0), (.ifCond .eq 7, 3, 937, 0), (.iconst 1, 1, 1, 0), (.goto 4, 3, 938, 0)]
def kb_307_937 : List pb_El := [(.iconst 0, 1, 0, 0)]
def kb_307_938 : List pb_El := [(.invokevirtual 82, 3, 242, 6), (.lcmp, 1, 0, 0), (.ifCond .eq 1064, 3, 2006, 0), (.iconst 0, 1, 0, 0), (.ireturn, 1, 0, 0)]
def kb_307_947 : List pb_El := [(.aload_n 1, 1, 0, 0), (.aload_n 0, 1, 0, 0), (.iload_n 3, 1, 0, 0), (.iconst 1, 1, 1, 0), (.iadd, 1, 0, 0), (.iaload, 1, 0, 0), (.aload_n 0, 1, 0, 0), (.iload_n 3, 1, 0, 0), (.iconst 2, 1, 2, 0), (.iadd, 1, 0, 0), (.iaload, 1, 0, 0), (.aload_n 0, 1, 0, 0), (.iload_n 3, 1, 0, 0), (.iconst 3, 1, 3, 0), (.iadd, 1, 0, 0), (.iaload, 1, 0, 0), (.invokevirtual 83, 3, 139, 4), (.aload_n 2, 1, 0, 0), (.aload_n 0, 1, 0, 0), (.iload_n 3, 1, 0, 0), (.iconst 1, 1, 1, 0), (.iadd, 1, 0, 0), (.iaload, 1, 0, 0), (.aload_n 0, 1, 0, 0), (.iload_n 3, 1, 0, 0), (.iconst 2, 1, 2, 0), (.iadd, 1, 0, 0), (.iaload, 1, 0, 0), (.aload_n 0, 1, 0, 0), (.iload_n 3, 1, 0, 0), (.iconst 3, 1, 3, 0), (.iadd, 1, 0, 0), (.iaload, 1, 0, 0), (.invokevirtual 86, 3, 246, 4), (.if_icmp .eq 1021, 3, 2006, 0), (.iconst 0, 1, 0, 0), (.ireturn, 1, 0, 0)]
def kb_307_990 : List pb_El := [(.aload_n 1, 1, 0, 0), (.aload_n 0, 1, 0, 0), (.iload_n 3, 1, 0, 0), (.iconst 1, 1, 1, 0), (.iadd, 1, 0, 0), (.iaload, 1, 0, 0), (.aload_n 0, 1, 0, 0), (.iload_n 3, 1, 0, 0), (.iconst 2, 1, 2, 0), (.iadd, 1, 0, 0), (.iaload, 1, 0, 0), (.invokevirtual 87, 3, 140, 3), (.aload_n 2, 1, 0, 0), (.aload_n 0, 1, 0, 0), (.iload_n 3, 1, 0, 0), (.iconst 1, 1, 1, 0), (.iadd, 1, 0, 0), (.iaload, 1, 0, 0), (.aload_n 0, 1, 0, 0), (.iload_n 3, 1, 0, 0), (.iconst 2, 1, 2, 0), (.iadd, 1, 0, 0), (.iaload, 1, 0, 0), (.invokevirtual 90, 3, 255, 3), (.if_icmp .eq 988, 3, 2006, 0), (.iconst 0, 1, 0, 0), (.ireturn, 1, 0, 0)]
def kb_307_1023 : List pb_El := [(.aload_n 1, 1, 0, 0), (.aload_n 0, 1, 0, 0), (.iload_n 3, 1, 0, 0), (.iconst 1, 1, 1, 0), (.iadd, 1, 0, 0), (.iaload, 1, 0, 0), (.aload_n 0, 1, 0, 0), (.iload_n 3, 1, 0, 0), (.iconst 2, 1, 2, 0), (.iadd, 1, 0, 0), (.iaload, 1, 0, 0), (.aload_n 0, 1, 0, 0), (.iload_n 3, 1, 0, 0), (.iconst 3, 1, 3, 0), (.iadd, 1, 0, 0), (.iaload, 1, 0, 0), (.aload_n 0, 1, 0, 0), (.iload_n 3, 1, 0, 0), (.iconst 4, 1, 4, 0), (.iadd, 1, 0, 0), (.iaload, 1, 0, 0), (.invokevirtual 91, 3, 141, 5), (.aload_n 2, 1, 0, 0), (.aload_n 0, 1, 0, 0), (.iload_n 3, 1, 0, 0), (.iconst 1, 1, 1, 0), (.iadd, 1, 0, 0), (.iaload, 1, 0, 0), (.aload_n 0, 1, 0, 0), (.iload_n 3, 1, 0, 0), (.iconst 2, 1, 2, 0), (.iadd, 1, 0, 0), (.iaload, 1, 0, 0), (.aload_n 0, 1, 0, 0), (.iload_n 3, 1, 0, 0), (.iconst 3, 1, 3, 0), (.iadd, 1, 0, 0), (.iaload, 1, 0, 0), (.aload_n 0, 1, 0, 0), (.iload_n 3, 1, 0, 0), (.iconst 4, 1, 4, 0), (.iadd, 1, 0, 0), (.iaload, 1, 0, 0), (.invokevirtual 94, 3, 258, 5), (.if_icmp .eq 935, 3, 2006, 0), (.iconst 0, 1, 0, 0), (.ireturn, 1, 0, 0)]
def kb_307_1076 : List pb_El := [(.aload_n 1, 1, 0, 0), (.aload_n 0, 1, 0, 0), (.iload_n 3, 1, 0, 0), (.iconst 1, 1, 1, 0), (.iadd, 1, 0, 0), (.iaload, 1, 0, 0), (.aload_n 0, 1, 0, 0), (.iload_n 3, 1, 0, 0), (.iconst 2, 1, 2, 0), (.iadd, 1, 0, 0), (.iaload, 1, 0, 0), (.aload_n 0, 1, 0, 0), (.iload_n 3, 1, 0, 0), (.iconst 3, 1, 3, 0), (.iadd, 1, 0, 0), (.iaload, 1, 0, 0), (.invokevirtual 95, 3, 142, 4), (.aload_n 2, 1, 0, 0), (.aload_n 0, 1, 0, 0), (.iload_n 3, 1, 0, 0), (.iconst 1, 1, 1, 0), (.iadd, 1, 0, 0), (.iaload, 1, 0, 0), (.aload_n 0, 1, 0, 0), (.iload_n 3, 1, 0, 0), (.iconst 2, 1, 2, 0), (.iadd, 1, 0, 0), (.iaload, 1, 0, 0), (.aload_n 0, 1, 0, 0), (.iload_n 3, 1, 0, 0), (.iconst 3, 1, 3, 0), (.iadd, 1, 0, 0), (.iaload, 1, 0, 0), (.invokevirtual 98, 3, 261, 4), (.if_icmp .eq 892, 3, 2006, 0), (.iconst 0, 1, 0, 0), (.ireturn, 1, 0, 0)]
def kb_307_1119 : List pb_El := [(.aload_n 1, 1, 0, 0), (.aload_n 0, 1, 0, 0), (.iload_n 3, 1, 0, 0), (.iconst 1, 1, 1, 0), (.iadd, 1, 0, 0), (.iaload, 1, 0, 0), (.aload_n 0, 1, 0, 0), (.iload_n 3, 1, 0, 0), (.iconst 2, 1, 2, 0), (.iadd, 1, 0, 0), (.iaload, 1, 0, 0), (.invokevirtual 99, 3, 143, 3), (.aload_n 2, 1, 0, 0), (.aload_n 0, 1, 0, 0), (.iload_n 3, 1, 0, 0), (.iconst 1, 1, 1, 0), (.iadd, 1, 0, 0), (.iaload, 1, 0, 0), (.aload_n 0, 1, 0, 0), (.iload_n 3, 1, 0, 0), (.iconst 2, 1, 2, 0), (.iadd, 1, 0, 0), (.iaload, 1, 0, 0), (.invokevirtual 102, 3, 270, 3), (.if_icmp .eq 859, 3, 2006, 0), (.iconst 0, 1, 0, 0), (.ireturn, 1, 0, 0)]
def kb_307_1152 : List pb_El := [(.aload_n 1, 1, 0, 0), (.aload_n 0, 1, 0, 0), (.iload_n 3, 1, 0, 0), (.iconst 1, 1, 1, 0), (.iadd, 1, 0, 0), (.iaload, 1, 0, 0), (.aload_n 0, 1, 0, 0), (.iload_n 3, 1, 0, 0), (.iconst 2, 1, 2, 0), (.iadd, 1, 0, 0), (.iaload, 1, 0, 0), (.invokevirtual 103, 3, 144, 3), (.aload_n 2, 1, 0, 0), (.aload_n 0, 1, 0, 0), (.iload_n 3, 1, 0, 0), (.iconst 1, 1, 1, 0), (.iadd, 1, 0, 0), (.iaload, 1, 0, 0), (.aload_n 0, 1, 0, 0), (.iload_n 3, 1, 0, 0), (.iconst 2, 1, 2, 0), (.iadd, 1, 0, 0), (.iaload, 1, 0, 0), (.invokevirtual 106, 3, 271, 3), (.if_icmp .eq 826, 3, 2006, 0), (.iconst 0, 1, 0, 0), (.ireturn, 1, 0, 0)]
def kb_307_1185 : List pb_El := [(.aload_n 1, 1, 0, 0), (.aload_n 0, 1, 0, 0), (.iload_n 3, 1, 0, 0), (.iconst 1, 1, 1, 0), (.iadd, 1, 0, 0), (.iaload, 1, 0, 0), (.aload_n 0, 1, 0, 0), (.iload_n 3, 1, 0, 0), (.iconst 2, 1, 2, 0), (.iadd, 1, 0, 0), (.iaload, 1, 0, 0), (.aload_n 0, 1, 0, 0), (.iload_n 3, 1, 0, 0), (.iconst 3, 1, 3, 0), (.iadd, 1, 0, 0), (.iaload, 1, 0, 0), (.invokevirtual 107, 3, 145, 4), (.aload_n 2, 1, 0, 0), (.aload_n 0, 1, 0, 0), (.iload_n 3, 1, 0, 0), (.iconst 1, 1, 1, 0), (.iadd, 1, 0, 0), (.iaload, 1, 0, 0), (.aload_n 0, 1, 0, 0), (.iload_n 3, 1, 0, 0), (.iconst 2, 1, 2, 0), (.iadd, 1, 0, 0), (.iaload, 1, 0, 0), (.aload_n 0, 1, 0, 0), (.iload_n 3, 1, 0, 0), (.iconst 3, 1, 3, 0), (.iadd, 1, 0, 0), (.iaload, 1, 0, 0), (.invokevirtual 110, 3, 272, 4), (.if_icmp .eq 783, 3, 2006, 0), (.iconst 0, 1, 0, 0), (.ireturn, 1, 0, 0)]
def kb_307_1228 : List pb_El := [(.aload_n 1, 1, 0, 0), (.aload_n 0, 1, 0, 0), (.iload_n 3, 1, 0, 0), (.iconst 1, 1, 1, 0), (.iadd, 1, 0, 0), (.iaload, 1, 0, 0), (.aload_n 0, 1, 0, 0), (.iload_n 3, 1, 0, 0), (.iconst 2, 1, 2, 0), (.iadd, 1, 0, 0), (.iaload, 1, 0, 0), (.ifCond .eq 7, 3, 1246, 0), (.iconst 1, 1, 1, 0), (.goto 4, 3, 1247, 0)]
def kb_307_1246 : List pb_El := [(.iconst 0, 1, 0, 0)]
def kb_307_1247 : List pb_El := [(.invokevirtual 111, 3, 146, 3), (.aload_n 2, 1, 0, 0), (.aload_n 0, 1, 0, 0), (.iload_n 3, 1, 0, 0), (.iconst 1, 1, 1, 0), (.iadd, 1, 0, 0), (.iaload, 1, 0, 0), (.aload_n 0, 1, 0, 0), (.iload_n 3, 1, 0, 0), (.iconst 2, 1, 2, 0), (.iadd, 1, 0, 0), (.iaload, 1, 0, 0), (.ifCond .eq 7, 3, 1268, 0), (.iconst 1, 1, 1, 0), (.goto 4, 3, 1269, 0)]
def kb_307_1268 : List pb_El := [(.iconst 0, 1, 0, 0)]
def kb_307_1269 : List pb_El := [(.invokevirtual 114, 3, 274, 3), (.if_icmp .eq 734, 3, 2006, 0), (.iconst 0, 1, 0, 0), (.ireturn, 1, 0, 0)]
def kb_307_1277 : List pb_El := [(.aload_n 1, 1, 0, 0), (.aload_n 0, 1, 0, 0), (.iload_n 3, 1, 0, 0), (.iconst 1, 1, 1, 0), (.iadd, 1, 0, 0), (.iaload, 1, 0, 0), (.aload_n 0, 1, 0, 0), (.iload_n 3, 1, 0, 0), (.iconst 2, 1, 2, 0), (.iadd, 1, 0, 0), (.iaload, 1, 0, 0), (.invokevirtual 115, 3, 147, 3), (.aload_n 2, 1, 0, 0), (.aload_n 0, 1, 0, 0), (.iload_n 3, 1, 0, 0), (.iconst 1, 1, 1, 0), (.iadd, 1, 0, 0), (.iaload, 1, 0, 0), (.aload_n 0, 1, 0, 0), (.iload_n 3, 1, 0, 0), (.iconst 2, 1, 2, 0), (.iadd, 1, 0, 0), (.iaload, 1, 0, 0), (.invokevirtual 118, 3, 275, 3), (.if_icmp .eq 701, 3, 2006, 0), (.iconst 0, 1, 0, 0), (.ireturn, 1, 0, 0)]
def kb_307_1310 : List pb_El := [(.aload_n 1, 1, 0, 0), (.aload_n 0, 1, 0, 0), (.iload_n 3, 1, 0, 0), (.iconst 1, 1, 1, 0), (.iadd, 1, 0, 0), (.iaload, 1, 0, 0), (.aload_n 0, 1, 0, 0), (.iload_n 3, 1, 0, 0), (.iconst 2, 1, 2, 0), (.iadd, 1, 0, 0), (.iaload, 1, 0, 0), (.invokevirtual 119, 3, 148, 3), (.aload_n 2, 1, 0, 0), (.aload_n 0, 1, 0, 0), (.iload_n 3, 1, 0, 0), (.iconst 1, 1, 1, 0), (.iadd, 1, 0, 0), (.iaload, 1, 0, 0), (.aload_n 0, 1, 0, 0), (.iload_n 3, 1, 0, 0), (.iconst 2, 1, 2, 0), (.iadd, 1, 0, 0), (.iaload, 1, 0, 0), (.invokevirtual 122, 3, 276, 3), (.if_icmp .eq 668, 3, 2006, 0), (.iconst 0, 1, 0, 0), (.ireturn, 1, 0, 0)]
def kb_307_1343 : List pb_El := [(.aload_n 1, 1, 0, 0), (.aload_n 0, 1, 0, 0), (.iload_n 3, 1, 0, 0), (.iconst 1, 1, 1, 0), (.iadd, 1, 0, 0), (.iaload, 1, 0, 0), (.aload_n 0, 1, 0, 0), (.iload_n 3, 1, 0, 0), (.iconst 2, 1, 2, 0), (.iadd, 1, 0, 0), (.iaload, 1, 0, 0), (.aload_n 0, 1, 0, 0), (.iload_n 3, 1, 0, 0), (.iconst 3, 1, 3, 0), (.iadd, 1, 0, 0), (.iaload, 1, 0, 0), (.ifCond .eq 7, 3, 1366, 0), (.iconst 1, 1, 1, 0), (.goto 4, 3, 1367, 0)]
def kb_307_1366 : List pb_El := [(.iconst 0, 1, 0, 0)]
def kb_307_1367 : List pb_El := [(.invokevirtual 123, 3, 149, 4), (.aload_n 2, 1, 0, 0), (.aload_n 0, 1, 0, 0), (.iload_n 3, 1, 0, 0), (.iconst 1, 1, 1, 0), (.iadd, 1, 0, 0), (.iaload, 1, 0, 0), (.aload_n 0, 1, 0, 0), (.iload_n 3, 1, 0, 0), (.iconst 2, 1, 2, 0), (.iadd, 1, 0, 0), (.iaload, 1, 0, 0), (.aload_n 0, 1, 0, 0), (.iload_n 3, 1, 0, 0), (.iconst 3, 1, 3, 0), (.iadd, 1, 0, 0), (.iaload, 1, 0, 0), (.ifCond .eq 7, 3, 1393, 0), (.iconst 1, 1, 1, 0), (.goto 4, 3, 1394, 0)]
def kb_307_1393 : List pb_El := [(.iconst 0, 1, 0, 0)]
def kb_307_1394 : List pb_El := [(.invokevirtual 126, 3, 277, 4), (.lcmp, 1, 0, 0), (.ifCond .eq 608, 3, 2006, 0), (.iconst 0, 1, 0, 0), (.ireturn, 1, 0, 0)]
def kb_307_1403 : List pb_El := [(.aload_n 1, 1, 0, 0), (.aload_n 0, 1, 0, 0), (.iload_n 3, 1, 0, 0), (.iconst 1, 1, 1, 0), (.iadd, 1, 0, 0), (.iaload, 1, 0, 0), (.aload_n 0, 1, 0, 0), (.iload_n 3, 1, 0, 0), (.iconst 2, 1, 2, 0), (.iadd, 1, 0, 0), (.iaload, 1, 0, 0), (.aload_n 0, 1, 0, 0), (.iload_n 3, 1, 0, 0), (.iconst 3, 1, 3, 0), (.iadd, 1, 0, 0), (.iaload, 1, 0, 0), (.invokevirtual 127, 3, 150, 4), (.aload_n 2, 1, 0, 0), (.aload_n 0, 1, 0, 0), (.iload_n 3, 1, 0, 0), (.iconst 1, 1, 1, 0), (.iadd, 1, 0, 0), (.iaload, 1, 0, 0), (.aload_n 0, 1, 0, 0), (.iload_n 3, 1, 0, 0), (.iconst 2, 1, 2, 0), (.iadd, 1, 0, 0), (.iaload, 1, 0, 0), (.aload_n 0, 1, 0, 0), (.iload_n 3, 1, 0, 0), (.iconst 3, 1, 3, 0), (.iadd, 1, 0, 0), (.iaload, 1, 0, 0), (.invokevirtual 130, 3, 278, 4), (.if_icmp .eq 565, 3, 2006, 0), (.iconst 0, 1, 0, 0), (.ireturn, 1, 0, 0)]
def kb_307_1446 : List pb_El := [(.aload_n 1, 1, 0, 0), (.aload_n 0, 1, 0, 0), (.iload_n 3, 1, 0, 0), (.iconst 1, 1, 1, 0), (.iadd, 1, 0, 0), (.iaload, 1, 0, 0), (.aload_n 0, 1, 0, 0), (.iload_n 3, 1, 0, 0), (.iconst 2, 1, 2, 0), (.iadd, 1, 0, 0), (.iaload, 1, 0, 0), (.invokevirtual 131, 3, 151, 3), (.aload_n 2, 1, 0, 0), (.aload_n 0, 1, 0, 0), (.iload_n 3, 1, 0, 0), (.iconst 1, 1, 1, 0), (.iadd, 1, 0, 0), (.iaload, 1, 0, 0), (.aload_n 0, 1, 0, 0), (.iload_n 3, 1, 0, 0), (.iconst 2, 1, 2, 0), (.iadd, 1, 0, 0), (.iaload, 1, 0, 0), (.invokevirtual 134, 3, 280, 3), (.if_icmp .eq 532, 3, 2006, 0), (.iconst 0, 1, 0, 0), (.ireturn, 1, 0, 0)]
def kb_307_1479 : List pb_El := [(.aload_n 1, 1, 0, 0), (.aload_n 0, 1, 0, 0), (.iload_n 3, 1, 0, 0), (.iconst 1, 1, 1, 0), (.iadd, 1, 0, 0), (.iaload, 1, 0, 0), (.aload_n 0, 1, 0, 0), (.iload_n 3, 1, 0, 0), (.iconst 2, 1, 2, 0), (.iadd, 1, 0, 0), (.iaload, 1, 0, 0), (.aload_n 0, 1, 0, 0), (.iload_n 3, 1, 0, 0), (.iconst 3, 1, 3, 0), (.iadd, 1, 0, 0), (.iaload, 1, 0, 0), (.invokevirtual 135, 3, 152, 4), (.aload_n 2, 1, 0, 0), (.aload_n 0, 1, 0, 0), (.iload_n 3, 1, 0, 0), (.iconst 1, 1, 1, 0), (.iadd, 1, 0, 0), (.iaload, 1, 0, 0), (.aload_n 0, 1, 0, 0), (.iload_n 3, 1, 0, 0), (.iconst 2, 1, 2, 0), (.iadd, 1, 0, 0), (.iaload, 1, 0, 0), (.aload_n 0, 1, 0, 0), (.iload_n 3, 1, 0, 0), (.iconst 3, 1, 3, 0), (.iadd, 1, 0, 0), (.iaload, 1, 0, 0), (.invokevirtual 138, 3, 284, 4), (.if_icmp .eq 489, 3, 2006, 0), (.iconst 0, 1, 0, 0), (.ireturn, 1, 0, 0)]
def kb_307_1522 : List pb_El := [(.aload_n 1, 1, 0, 0), (.aload_n 0, 1, 0, 0), (.iload_n 3, 1, 0, 0), (.iconst 1, 1, 1, 0), (.iadd, 1, 0, 0), (.iaload, 1, 0, 0), (.aload_n 0, 1, 0, 0), (.iload_n 3, 1, 0, 0), (.iconst 2, 1, 2, 0), (.iadd, 1, 0, 0), (.iaload, 1, 0, 0), (.invokevirtual 139, 3, 153, 3), (.aload_n 2, 1, 0, 0), (.aload_n 0, 1, 0, 0), (.iload_n 3, 1, 0, 0), (.iconst 1, 1, 1, 0), (.iadd, 1, 0, 0), (.iaload, 1, 0, 0), (.aload_n 0, 1, 0, 0), (.iload_n 3, 1, 0, 0), (.iconst 2, 1, 2, 0), (.iadd, 1, 0, 0), (.iaload, 1, 0, 0), (.invokevirtual 142, 3, 285, 3), (.if_icmp .eq 456, 3, 2006, 0), (.iconst 0, 1, 0, 0), (.ireturn, 1, 0, 0)]
def kb_307_1555 : List pb_El := [(.aload_n 1, 1, 0, 0), (.aload_n 0, 1, 0, 0), (.iload_n 3, 1, 0, 0), (.iconst 1, 1, 1, 0), (.iadd, 1, 0, 0), (.iaload, 1, 0, 0), (.aload_n 0, 1, 0, 0), (.iload_n 3, 1, 0, 0), (.iconst 2, 1, 2, 0), (.iadd, 1, 0, 0), (.iaload, 1, 0, 0), (.aload_n 0, 1, 0, 0), (.iload_n 3, 1, 0, 0), (.iconst 3, 1, 3, 0), (.iadd, 1, 0, 0), (.iaload, 1, 0, 0), (.aload_n 0, 1, 0, 0), (.iload_n 3, 1, 0, 0), (.iconst 4, 1, 4, 0), (.iadd, 1, 0, 0), (.iaload, 1, 0, 0), (.ifCond .eq 7, 3, 1583, 0), (.iconst 1, 1, 1, 0), (.goto 4, 3, 1584, 0)]
def kb_307_1583 : List pb_El := [(.iconst 0, 1, 0, 0)]
def kb_307_1584 : List pb_El := [(.invokevirtual 143, 3, 154, 5), (.aload_n 2, 1, 0, 0), (.aload_n 0, 1, 0, 0), (.iload_n 3, 1, 0, 0), (.iconst 1, 1, 1, 0), (.iadd, 1, 0, 0), (.iaload, 1, 0, 0), (.aload_n 0, 1, 0, 0), (.iload_n 3, 1, 0, 0), (.iconst 2, 1, 2, 0), (.iadd, 1, 0, 0), (.iaload, 1, 0, 0), (.aload_n 0, 1, 0, 0), (.iload_n 3, 1, 0, 0), (.iconst 3, 1, 3, 0), (.iadd, 1, 0, 0), (.iaload, 1, 0, 0), (.aload_n 0, 1, 0, 0), (.iload_n 3, 1, 0, 0), (.iconst 4, 1, 4, 0), (.iadd, 1, 0, 0), (.iaload, 1, 0, 0), (.ifCond .eq 7, 3, 1615, 0), (.iconst 1, 1, 1, 0), (.goto 4, 3, 1616, 0)]
def kb_307_1615 : List pb_El := [(.iconst 0, 1, 0, 0)]
def kb_307_1616 : List pb_El := [(.invokevirtual 147, 3, 287, 5), (.if_icmp .eq 387, 3, 2006, 0), (.iconst 0, 1, 0, 0), (.ireturn, 1, 0, 0)]
def kb_307_1624 : List pb_El := [(.aload_n 1, 1, 0, 0), (.aload_n 0, 1, 0, 0), (.iload_n 3, 1, 0, 0), (.iconst 1, 1, 1, 0), (.iadd, 1, 0, 0), (.iaload, 1, 0, 0), (.aload_n 0, 1, 0, 0), (.iload_n 3, 1, 0, 0), (.iconst 2, 1, 2, 0), (.iadd, 1, 0, 0), (.iaload, 1, 0, 0), (.invokevirtual 148, 3, 155, 3), (.aload_n 2, 1, 0, 0), (.aload_n 0, 1, 0, 0), (.iload_n 3, 1, 0, 0), (.iconst 1, 1, 1, 0), (.iadd, 1, 0, 0), (.iaload, 1, 0, 0), (.aload_n 0, 1, 0, 0), (.iload_n 3, 1, 0, 0), (.iconst 2, 1, 2, 0), (.iadd, 1, 0, 0), (.iaload, 1, 0, 0), (.invokevirtual 151, 3, 292, 3), (.if_icmp .eq 354, 3, 2006, 0), (.iconst 0, 1, 0, 0), (.ireturn, 1, 0, 0)]
def kb_307_1657 : List pb_El := [(.aload_n 1, 1, 0, 0), (.aload_n 0, 1, 0, 0), (.iload_n 3, 1, 0, 0), (.iconst 1, 1, 1, 0), (.iadd, 1, 0, 0), (.iaload, 1, 0, 0), (.aload_n 0, 1, 0, 0), (.iload_n 3, 1, 0, 0), (.iconst 2, 1, 2, 0), (.iadd, 1, 0, 0), (.iaload, 1, 0, 0), (.aload_n 0, 1, 0, 0), (.iload_n 3, 1, 0, 0), (.iconst 3, 1, 3, 0), (.iadd, 1, 0, 0), (.iaload, 1, 0, 0), (.ifCond .eq 7, 3, 1680, 0), (.iconst 1, 1, 1, 0), (.goto 4, 3, 1681, 0)]
def kb_307_1680 : List pb_El := [(.iconst 0, 1, 0, 0)]
def kb_307_1681 : List pb_El := [(.invokevirtual 152, 3, 156, 4), (.aload_n 2, 1, 0, 0), (.aload_n 0, 1, 0, 0), (.iload_n 3, 1, 0, 0), (.iconst 1, 1, 1, 0), (.iadd, 1, 0, 0), (.iaload, 1, 0, 0), (.aload_n 0, 1, 0, 0), (.iload_n 3, 1, 0, 0), (.iconst 2, 1, 2, 0), (.iadd, 1, 0, 0), (.iaload, 1, 0, 0), (.aload_n 0, 1, 0, 0), (.iload_n 3, 1, 0, 0), (.iconst 3, 1, 3, 0), (.iadd, 1, 0, 0), (.iaload, 1, 0, 0), (.ifCond .eq 7, 3, 1707, 0), (.iconst 1, 1, 1, 0), (.goto 4, 3, 1708, 0)]
def kb_307_1707 : List pb_El := [(.iconst 0, 1, 0, 0)]
def kb_307_1708 : List pb_El := [(.invokevirtual 155, 3, 293, 4), (.if_icmp .eq 295, 3, 2006, 0), (.iconst 0, 1, 0, 0), (.ireturn, 1, 0, 0)]
def kb_307_1716 : List pb_El := [(.aload_n 1, 1, 0, 0), (.aload_n 0, 1, 0, 0), (.iload_n 3, 1, 0, 0), (.iconst 1, 1, 1, 0), (.iadd, 1, 0, 0), (.iaload, 1, 0, 0), (.aload_n 0, 1, 0, 0), (.iload_n 3, 1, 0, 0), (.iconst 2, 1, 2, 0), (.iadd, 1, 0, 0), (.iaload, 1, 0, 0), (.aload_n 0, 1, 0, 0), (.iload_n 3, 1, 0, 0), (.iconst 3, 1, 3, 0), (.iadd, 1, 0, 0), (.iaload, 1, 0, 0), (.ifCond .eq 7, 3, 1739, 0), (.iconst 1, 1, 1, 0), (.goto 4, 3, 1740, 0)]
def kb_307_1739 : List pb_El := [(.iconst 0, 1, 0, 0)]
def kb_307_1740 : List pb_El := [(.invokevirtual 156, 3, 157, 4), (.aload_n 2, 1, 0, 0), (.aload_n 0, 1, 0, 0), (.iload_n 3, 1, 0, 0), (.iconst 1, 1, 1, 0), (.iadd, 1, 0, 0), (.iaload, 1, 0, 0), (.aload_n 0, 1, 0, 0), (.iload_n 3, 1, 0, 0), (.iconst 2, 1, 2, 0), (.iadd, 1, 0, 0), (.iaload, 1, 0, 0), (.aload_n 0, 1, 0, 0), (.iload_n 3, 1, 0, 0), (.iconst 3, 1, 3, 0), (.iadd, 1, 0, 0), (.iaload, 1, 0, 0), (.ifCond .eq 7, 3, 1766, 0), (.iconst 1, 1, 1, 0), (.goto 4, 3, 1767, 0)]
def kb_307_1766 : List pb_El := [(.iconst 0, 1, 0, 0)]
def kb_307_1767 : List pb_El := [(.invokevirtual 159, 3, 294, 4), (.if_icmp .eq 236, 3, 2006, 0), (.iconst 0, 1, 0, 0), (.ireturn, 1, 0, 0)]
def kb_307_1775 : List pb_El := [(.aload_n 1, 1, 0, 0), (.aload_n 0, 1, 0, 0), (.iload_n 3, 1, 0, 0), (.iconst 1, 1, 1, 0), (.iadd, 1, 0, 0), (.iaload, 1, 0, 0), (.aload_n 0, 1, 0, 0), (.iload_n 3, 1, 0, 0), (.iconst 2, 1, 2, 0), (.iadd, 1, 0, 0), (.iaload, 1, 0, 0), (.aload_n 0, 1, 0, 0), (.iload_n 3, 1, 0, 0), (.iconst 3, 1, 3, 0), (.iadd, 1, 0, 0), (.iaload, 1, 0, 0), (.invokevirtual 160, 3, 158, 4), (.aload_n 2, 1, 0, 0), (.aload_n 0, 1, 0, 0), (.iload_n 3, 1, 0, 0), (.iconst 1, 1, 1, 0), (.iadd, 1, 0, 0), (.iaload, 1, 0, 0), (.aload_n 0, 1, 0, 0), (.iload_n 3, 1, 0, 0), (.iconst 2, 1, 2, 0), (.iadd, 1, 0, 0), (.iaload, 1, 0, 0), (.aload_n 0, 1, 0, 0), (.iload_n 3, 1, 0, 0), (.iconst 3, 1, 3, 0), (.iadd, 1, 0, 0), (.iaload, 1, 0, 0), (.invokevirtual 163, 3, 299, 4), (.if_icmp .eq 193, 3, 2006, 0), (.iconst 0, 1, 0, 0), (.ireturn, 1, 0, 0)]
def kb_307_1818 : List pb_El := [(.aload_n 1, 1, 0, 0), (.aload_n 0, 1, 0, 0), (.iload_n 3, 1, 0, 0), (.iconst 1, 1, 1, 0), (.iadd, 1, 0, 0), (.iaload, 1, 0, 0), (.aload_n 0, 1, 0, 0), (.iload_n 3, 1, 0, 0), (.iconst 2, 1, 2, 0), (.iadd, 1, 0, 0), (.iaload, 1, 0, 0), (.aload_n 0, 1, 0, 0), (.iload_n 3, 1, 0, 0), (.iconst 3, 1, 3, 0), (.iadd, 1, 0, 0), (.iaload, 1, 0, 0), (.aload_n 0, 1, 0, 0), (.iload_n 3, 1, 0, 0), (.iconst 4, 1, 4, 0), (.iadd, 1, 0, 0), (.iaload, 1, 0, 0), (.ifCond .eq 7, 3, 1846, 0), (.iconst 1, 1, 1, 0), (.goto 4, 3, 1847, 0)]
def kb_307_1846 : List pb_El := [(.iconst 0, 1, 0, 0)]
def kb_307_1847 : List pb_El := [(.invokevirtual 164, 3, 159, 5), (.aload_n 2, 1, 0, 0), (.aload_n 0, 1, 0, 0), (.iload_n 3, 1, 0, 0), (.iconst 1, 1, 1, 0), (.iadd, 1, 0, 0), (.iaload, 1, 0, 0), (.aload_n 0, 1, 0, 0), (.iload_n 3, 1, 0, 0), (.iconst 2, 1, 2, 0), (.iadd, 1, 0, 0), (.iaload, 1, 0, 0), (.aload_n 0, 1, 0, 0), (.iload_n 3, 1, 0, 0), (.iconst 3, 1, 3, 0), (.iadd, 1, 0, 0), (.iaload, 1, 0, 0), (.aload_n 0, 1, 0, 0), (.iload_n 3, 1, 0, 0), (.iconst 4, 1, 4, 0), (.iadd, 1, 0, 0), (.iaload, 1, 0, 0), (.ifCond .eq 7, 3, 1878, 0), (.iconst 1, 1, 1, 0), (.goto 4, 3, 1879, 0)]
def kb_307_1878 : List pb_El := [(.iconst 0, 1, 0, 0)]
def kb_307_1879 : List pb_El := [(.invokevirtual 168, 3, 300, 5), (.lcmp, 1, 0, 0), (.ifCond .eq 123, 3, 2006, 0), (.iconst 0, 1, 0, 0), (.ireturn, 1, 0, 0)]
def kb_307_1888 : List pb_El := [(.aload_n 1, 1, 0, 0), (.aload_n 0, 1, 0, 0), (.iload_n 3, 1, 0, 0), (.iconst 1, 1, 1, 0), (.iadd, 1, 0, 0), (.iaload, 1, 0, 0), (.aload_n 0, 1, 0, 0), (.iload_n 3, 1, 0, 0), (.iconst 2, 1, 2, 0), (.iadd, 1, 0, 0), (.iaload, 1, 0, 0), (.ifCond .eq 7, 3, 1906, 0), (.iconst 1, 1, 1, 0), (.goto 4, 3, 1907, 0)]
def kb_307_1906 : List pb_El := [(.iconst 0, 1, 0, 0)]
def kb_307_1907 : List pb_El := [(.invokevirtual 169, 3, 160, 3), (.aload_n 2, 1, 0, 0), (.aload_n 0, 1, 0, 0), (.iload_n 3, 1, 0, 0), (.iconst 1, 1, 1, 0), (.iadd, 1, 0, 0), (.iaload, 1, 0, 0), (.aload_n 0, 1, 0, 0), (.iload_n 3, 1, 0, 0), (.iconst 2, 1, 2, 0), (.iadd, 1, 0, 0), (.iaload, 1, 0, 0), (.ifCond .eq 7, 3, 1928, 0), (.iconst 1, 1, 1, 0), (.goto 4, 3, 1929, 0)]
def kb_307_1928 : List pb_El := [(.iconst 0, 1, 0, 0)]
def kb_307_1929 : List pb_El := [(.invokevirtual 172, 3, 301, 3), (.if_icmp .eq 74, 3, 2006, 0), (.iconst 0, 1, 0, 0), (.ireturn, 1, 0, 0)]
def kb_307_1937 : List pb_El := [(.aload_n 1, 1, 0, 0), (.aload_n 0, 1, 0, 0), (.iload_n 3, 1, 0, 0), (.iconst 1, 1, 1, 0), (.iadd, 1, 0, 0), (.iaload, 1, 0, 0), (.invokevirtual 173, 3, 161, 2), (.aload_n 2, 1, 0, 0), (.aload_n 0, 1, 0, 0), (.iload_n 3, 1, 0, 0), (.iconst 1, 1, 1, 0), (.iadd, 1, 0, 0), (.iaload, 1, 0, 0), (.invokevirtual 176, 3, 302, 2), (.if_icmp .eq 51, 3, 2006, 0), (.iconst 0, 1, 0, 0), (.ireturn, 1, 0, 0)]
def kb_307_1960 : List pb_El := [(.aload_n 1, 1, 0, 0), (.aload_n 0, 1, 0, 0), (.iload_n 3, 1, 0, 0), (.iconst 1, 1, 1, 0), (.iadd, 1, 0, 0), (.iaload, 1, 0, 0), (.invokevirtual 177, 3, 162, 2), (.aload_n 2, 1, 0, 0), (.aload_n 0, 1, 0, 0), (.iload_n 3, 1, 0, 0), (.iconst 1, 1, 1, 0), (.iadd, 1, 0, 0), (.iaload, 1, 0, 0), (.invokevirtual 181, 3, 303, 2), (.if_icmp .eq 28, 3, 2006, 0), (.iconst 0, 1, 0, 0), (.ireturn, 1, 0, 0)]
def kb_307_1983 : List pb_El := [(.aload_n 1, 1, 0, 0), (.aload_n 0, 1, 0, 0), (.iload_n 3, 1, 0, 0), (.iconst 1, 1, 1, 0), (.iadd, 1, 0, 0), (.iaload, 1, 0, 0), (.invokevirtual 182, 3, 163, 2), (.aload_n 2, 1, 0, 0), (.aload_n 0, 1, 0, 0), (.iload_n 3, 1, 0, 0), (.iconst 1, 1, 1, 0), (.iadd, 1, 0, 0), (.iaload, 1, 0, 0), (.invokevirtual 185, 3, 304, 2), (.if_icmp .eq 5, 3, 2006, 0), (.iconst 0, 1, 0, 0), (.ireturn, 1, 0, 0)]
def kb_307_2006 : List pb_El := [(.iinc 3 6, 3, 6, 0), (.goto (-1991), 3, 18, 0)]
def kb_307_2012 : List pb_El := [(.iconst 1, 1, 1, 0), (.ireturn, 1, 0, 0)]
/-- PointedBenchLaw.law([I)Z -/
def kc_307 : List (Nat × List pb_El) := [(0, kb_307_0), (18, kb_307_18), (208, kb_307_208), (271, kb_307_271), (294, kb_307_294), (327, kb_307_327), (350, kb_307_350), (383, kb_307_383), (426, kb_307_426), (459, kb_307_459), (512, kb_307_512), (545, kb_307_545), (568, kb_307_568), (569, kb_307_569), (595, kb_307_595), (596, kb_307_596), (604, kb_307_604), (627, kb_307_627), (628, kb_307_628), (654, kb_307_654), (655, kb_307_655), (663, kb_307_663), (686, kb_307_686), (687, kb_307_687), (713, kb_307_713), (714, kb_307_714), (723, kb_307_723), (741, kb_307_741), (742, kb_307_742), (763, kb_307_763), (764, kb_307_764), (772, kb_307_772), (805, kb_307_805), (806, kb_307_806), (842, kb_307_842), (843, kb_307_843), (851, kb_307_851), (879, kb_307_879), (880, kb_307_880), (892, kb_307_892), (893, kb_307_893), (924, kb_307_924), (925, kb_307_925), (937, kb_307_937), (938, kb_307_938), (947, kb_307_947), (990, kb_307_990), (1023, kb_307_1023), (1076, kb_307_1076), (1119, kb_307_1119), (1152, kb_307_1152), (1185, kb_307_1185), (1228, kb_307_1228), (1246, kb_307_1246), (1247, kb_307_1247), (1268, kb_307_1268), (1269, kb_307_1269), (1277, kb_307_1277), (1310, kb_307_1310), (1343, kb_307_1343), (1366, kb_307_1366), (1367, kb_307_1367), (1393, kb_307_1393), (1394, kb_307_1394), (1403, kb_307_1403), (1446, kb_307_1446), (1479, kb_307_1479), (1522, kb_307_1522), (1555, kb_307_1555), (1583, kb_307_1583), (1584, kb_307_1584), (1615, kb_307_1615), (1616, kb_307_1616), (1624, kb_307_1624), (1657, kb_307_1657), (1680, kb_307_1680), (1681, kb_307_1681), (1707, kb_307_1707), (1708, kb_307_1708), (1716, kb_307_1716), (1739, kb_307_1739), (1740, kb_307_1740), (1766, kb_307_1766), (1767, kb_307_1767), (1775, kb_307_1775), (1818, kb_307_1818), (1846, kb_307_1846), (1847, kb_307_1847), (1878, kb_307_1878), (1879, kb_307_1879), (1888, kb_307_1888), (1906, kb_307_1906), (1907, kb_307_1907), (1928, kb_307_1928), (1929, kb_307_1929), (1937, kb_307_1937), (1960, kb_307_1960), (1983, kb_307_1983), (2006, kb_307_2006), (2012, kb_307_2012)]
def pb_CODES : List (List (Nat × List pb_El)) := [kc_0, kc_1, kc_2, kc_3, kc_4, kc_5, kc_6, kc_7, kc_8, kc_9, kc_10, kc_11, kc_12, kc_13, kc_14, kc_15, kc_16, kc_17, kc_18, kc_19, kc_20, kc_21, kc_22, kc_23, kc_24, kc_25, kc_26, kc_27, kc_28, kc_29, kc_30, kc_31, kc_32, kc_33, kc_34, kc_35, kc_36, kc_37, kc_38, kc_39, kc_40, kc_41, kc_42, kc_43, kc_44, kc_45, kc_46, kc_47, kc_48, kc_49, kc_50, kc_51, kc_52, kc_53, kc_54, kc_55, kc_56, kc_57, kc_58, kc_59, kc_60, kc_61, kc_62, kc_63, kc_64, kc_65, kc_66, kc_67, kc_68, kc_69, kc_70, kc_71, kc_72, kc_73, kc_74, kc_75, kc_76, kc_77, kc_78, kc_79, kc_80, kc_81, kc_82, kc_83, kc_84, kc_85, kc_86, kc_87, kc_88, kc_89, kc_90, kc_91, kc_92, kc_93, kc_94, kc_95, kc_96, kc_97, kc_98, kc_99, kc_100, kc_101, kc_102, kc_103, kc_104, kc_105, kc_106, kc_107, kc_108, kc_109, kc_110, kc_111, kc_112, kc_113, kc_114, kc_115, kc_116, kc_117, kc_118, kc_119, kc_120, kc_121, kc_122, kc_123, kc_124, kc_125, kc_126, kc_127, kc_128, kc_129, kc_130, kc_131, kc_132, kc_133, kc_134, kc_135, kc_136, kc_137, kc_138, kc_139, kc_140, kc_141, kc_142, kc_143, kc_144, kc_145, kc_146, kc_147, kc_148, kc_149, kc_150, kc_151, kc_152, kc_153, kc_154, kc_155, kc_156, kc_157, kc_158, kc_159, kc_160, kc_161, kc_162, kc_163, kc_164, kc_165, kc_166, kc_167, kc_168, kc_169, kc_170, kc_171, kc_172, kc_173, kc_174, kc_175, kc_176, kc_177, kc_178, kc_179, kc_180, kc_181, kc_182, kc_183, kc_184, kc_185, kc_186, kc_187, kc_188, kc_189, kc_190, kc_191, kc_192, kc_193, kc_194, kc_195, kc_196, kc_197, kc_198, kc_199, kc_200, kc_201, kc_202, kc_203, kc_204, kc_205, kc_206, kc_207, kc_208, kc_209, kc_210, kc_211, kc_212, kc_213, kc_214, kc_215, kc_216, kc_217, kc_218, kc_219, kc_220, kc_221, kc_222, kc_223, kc_224, kc_225, kc_226, kc_227, kc_228, kc_229, kc_230, kc_231, kc_232, kc_233, kc_234, kc_235, kc_236, kc_237, kc_238, kc_239, kc_240, kc_241, kc_242, kc_243, kc_244, kc_245, kc_246, kc_247, kc_248, kc_249, kc_250, kc_251, kc_252, kc_253, kc_254, kc_255, kc_256, kc_257, kc_258, kc_259, kc_260, kc_261, kc_262, kc_263, kc_264, kc_265, kc_266, kc_267, kc_268, kc_269, kc_270, kc_271, kc_272, kc_273, kc_274, kc_275, kc_276, kc_277, kc_278, kc_279, kc_280, kc_281, kc_282, kc_283, kc_284, kc_285, kc_286, kc_287, kc_288, kc_289, kc_290, kc_291, kc_292, kc_293, kc_294, kc_295, kc_296, kc_297, kc_298, kc_299, kc_300, kc_301, kc_302, kc_303, kc_304, kc_305, kc_306, kc_307]
def pb_CODE (mi : Nat) : List (Nat × List pb_El) := pb_CODES.getD mi []
def pb_MLS : List Nat := [1, 1, 2, 2, 2, 3, 4, 2, 3, 5, 4, 7, 3, 2, 4, 6, 4, 5, 4, 3, 5, 5, 5, 5, 7, 8, 8, 1, 2, 4, 3, 5, 4, 3, 5, 2, 2, 3, 2, 4, 2, 9, 3, 5, 3, 5, 4, 7, 4, 1, 3, 5, 3, 4, 4, 3, 3, 5, 4, 2, 3, 5, 3, 2, 5, 5, 4, 5, 4, 3, 4, 1, 5, 2, 3, 1, 3, 7, 3, 4, 4, 4, 5, 9, 1, 5, 3, 3, 1, 1, 1, 4, 3, 4, 2, 3, 4, 2, 1, 1, 3, 3, 3, 3, 4, 2, 2, 2, 1, 1, 1, 4, 6, 8, 9, 10, 3, 10, 8, 1, 3, 5, 4, 1, 6, 2, 5, 2, 4, 5, 5, 7, 4, 5, 5, 6, 4, 7, 13, 5, 4, 6, 5, 4, 4, 5, 4, 4, 6, 7, 5, 4, 5, 4, 6, 5, 5, 5, 6, 6, 4, 2, 2, 2, 2, 12, 6, 1, 3, 2, 2, 2, 3, 5, 4, 3, 6, 3, 2, 1, 3, 1, 3, 4, 4, 3, 3, 4, 5, 3, 5, 4, 6, 3, 5, 4, 2, 2, 2, 2, 2, 2, 2, 3, 5, 3, 6, 2, 2, 7, 1, 4, 1, 3, 2, 4, 2, 2, 4, 5, 5, 2, 3, 3, 3, 3, 2, 5, 3, 8, 7, 5, 10, 5, 6, 9, 4, 7, 3, 9, 6, 9, 8, 3, 1, 2, 4, 4, 4, 3, 4, 3, 5, 7, 4, 3, 2, 4, 6, 4, 5, 4, 4, 4, 6, 6, 4, 4, 5, 3, 3, 6, 8, 4, 5, 8, 5, 7, 7, 5, 9, 4, 3, 4, 5, 6, 7, 9, 3, 6, 3, 6, 4, 5, 5, 3, 3, 6, 4, 5, 5, 6, 2, 2, 2, 1, 4, 4]
def pb_mL (mi : Nat) : Nat := pb_MLS.getD mi 0
def pb_RZS : List Nat := [0, 0, 0, 1, 1, 0, 0, 1, 0, 0, 0, 0, 1, 0, 0, 0, 0, 0, 0, 0, 0, 0, 0, 0, 0, 0, 0, 0, 0, 0, 1, 1, 1, 1, 1, 1, 1, 0, 0, 0, 0, 0, 0, 0, 0, 0, 0, 0, 0, 0, 0, 0, 0, 0, 0, 1, 0, 1, 0, 0, 0, 1, 0, 0, 0, 0, 0, 0, 0, 0, 0, 1, 0, 0, 0, 0, 0, 0, 1, 0, 0, 0, 0, 0, 0, 0, 0, 0, 0, 1, 1, 1, 0, 1, 1, 0, 1, 0, 1, 0, 0, 0, 0, 1, 0, 0, 0, 0, 0, 0, 0, 0, 0, 0, 0, 0, 1, 0, 0, 0, 0, 1, 1, 0, 0, 0, 0, 0, 0, 0, 0, 0, 0, 0, 0, 0, 0, 0, 0, 0, 0, 0, 0, 0, 0, 0, 0, 0, 0, 0, 0, 0, 0, 0, 0, 0, 0, 0, 0, 0, 0, 0, 1, 1, 0, 0, 0, 0, 1, 1, 0, 0, 0, 0, 0, 1, 0, 0, 0, 0, 0, 1, 0, 1, 0, 1, 1, 1, 0, 0, 1, 1, 1, 1, 0, 0, 0, 0, 1, 0, 1, 1, 1, 0, 0, 1, 0, 0, 0, 0, 0, 0, 0, 0, 1, 0, 1, 1, 1, 1, 1, 1, 0, 1, 0, 0, 0, 0, 0, 0, 0, 0, 0, 0, 0, 0, 0, 0, 0, 0, 0, 0, 0, 0, 0, 1, 0, 0, 0, 1, 1, 1, 0, 0, 0, 0, 0, 0, 0, 1, 0, 0, 0, 0, 0, 0, 0, 0, 0, 0, 0, 0, 0, 0, 0, 0, 0, 0, 0, 0, 0, 0, 1, 0, 0, 0, 0, 0, 0, 0, 1, 0, 0, 0, 0, 0, 0, 1, 0, 0, 0, 0, 0, 1, 1, 0, 0, 0]
def pb_rz (mi : Nat) : Nat := pb_RZS.getD mi 0
def pb_MCS : List Nat := [0, 0, 0, 0, 0, 0, 0, 0, 0, 0, 0, 0, 0, 0, 0, 0, 0, 0, 0, 0, 0, 0, 0, 0, 0, 0, 0, 1, 1, 1, 1, 1, 1, 1, 1, 1, 1, 1, 1, 1, 1, 1, 1, 1, 1, 1, 1, 1, 1, 2, 2, 2, 2, 2, 2, 2, 2, 2, 2, 3, 3, 3, 3, 3, 3, 3, 3, 3, 3, 3, 4, 4, 4, 4, 4, 5, 5, 5, 5, 5, 5, 5, 5, 5, 6, 6, 6, 6, 6, 6, 6, 6, 6, 6, 6, 6, 6, 6, 6, 7, 7, 7, 7, 7, 7, 7, 7, 7, 8, 8, 8, 8, 8, 8, 8, 8, 8, 8, 8, 9, 9, 9, 9, 10, 10, 10, 10, 10, 10, 10, 10, 10, 10, 10, 10, 10, 10, 10, 10, 10, 10, 10, 10, 10, 10, 10, 10, 10, 10, 10, 10, 10, 10, 10, 10, 10, 10, 10, 10, 10, 10, 10, 10, 10, 10, 10, 10, 11, 11, 11, 11, 11, 11, 11, 11, 11, 11, 11, 11, 11, 11, 11, 11, 11, 11, 11, 11, 11, 11, 11, 11, 11, 11, 11, 11, 11, 11, 11, 11, 11, 11, 11, 11, 11, 11, 11, 11, 11, 11, 11, 11, 11, 11, 11, 11, 11, 11, 11, 11, 11, 11, 11, 11, 11, 11, 11, 11, 11, 11, 11, 11, 11, 11, 11, 11, 11, 11, 11, 11, 11, 11, 11, 11, 11, 11, 11, 11, 11, 11, 11, 11, 11, 11, 11, 11, 11, 11, 11, 11, 11, 11, 11, 11, 11, 11, 11, 11, 11, 11, 11, 11, 11, 11, 11, 11, 11, 11, 11, 11, 11, 11, 11, 11, 11, 11, 11, 11, 11, 11, 11, 11, 11, 11, 11, 11, 11, 11, 11, 11, 11, 11, 11, 11, 11, 11, 99, 99, 99]
def pb_mc (mi : Nat) : Nat := pb_MCS.getD mi 99
