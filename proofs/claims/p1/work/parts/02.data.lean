/-! the claim's data: classes with their fields, cells by name (world 0: the class; world 1: the reference), words -/
def F_zd0 : u_T := fun k => match k with
  | 0 => ("ScheduleCheck", "tape", "[B", true)
  | 1 => ("ScheduleCheck", "tapeSize", "I", false)
  | 2 => ("ScheduleCheck", "tokens", "LScheduleCheck$Tokens;", true)
  | 3 => ("ScheduleCheck", "parser", "LScheduleCheck$Parser;", true)
  | 4 => ("ScheduleCheck", "states", "LScheduleCheck$States;", true)
  | 5 => ("ScheduleCheck", "explorer", "LScheduleCheck$Explorer;", true)
  | 6 => ("ScheduleCheck", "program", "LScheduleCheck$Program;", false)
  | 7 => ("ScheduleCheck", "draft", "LScheduleCheck$Program;", false)
  | _ => ("ScheduleCheck", "endValues", "[B", true)
def t_zd0 : Nat → FieldType := fun k => match k with
  | 0 => .array .byte
  | 1 => .int
  | 2 => .object "ScheduleCheck$Tokens"
  | 3 => .object "ScheduleCheck$Parser"
  | 4 => .object "ScheduleCheck$States"
  | 5 => .object "ScheduleCheck$Explorer"
  | 6 => .object "ScheduleCheck$Program"
  | 7 => .object "ScheduleCheck$Program"
  | _ => .array .byte
theorem n_zd0 : ∀ a, a < 9 → ∀ b, b < 9 → a ≠ b → (F_zd0 a).2.1 ≠ (F_zd0 b).2.1 := by decide +kernel
theorem t_zd0_ok : ∀ k, k < 9 → parseFieldDescriptor (F_zd0 k).2.2.1 = some (t_zd0 k) := by decide +kernel
def F_zd1 : u_T := fun k => match k with
  | 0 => ("ScheduleCheck$Tokens", "kinds", "[LScheduleCheck$Token;", true)
  | 1 => ("ScheduleCheck$Tokens", "starts", "[I", true)
  | 2 => ("ScheduleCheck$Tokens", "contents", "[J", true)
  | 3 => ("ScheduleCheck$Tokens", "size", "I", false)
  | _ => ("ScheduleCheck$Tokens", "at", "I", false)
def t_zd1 : Nat → FieldType := fun k => match k with
  | 0 => .array (.object "ScheduleCheck$Token")
  | 1 => .array .int
  | 2 => .array .long
  | 3 => .int
  | _ => .int
theorem n_zd1 : ∀ a, a < 5 → ∀ b, b < 5 → a ≠ b → (F_zd1 a).2.1 ≠ (F_zd1 b).2.1 := by decide +kernel
theorem t_zd1_ok : ∀ k, k < 5 → parseFieldDescriptor (F_zd1 k).2.2.1 = some (t_zd1 k) := by decide +kernel
def F_zd2 : u_T := fun k => match k with
  | 0 => ("ScheduleCheck$Parser", "names", "[J", true)
  | 1 => ("ScheduleCheck$Parser", "cells", "[I", true)
  | 2 => ("ScheduleCheck$Parser", "known", "I", false)
  | 3 => ("ScheduleCheck$Parser", "shared", "I", false)
  | 4 => ("ScheduleCheck$Parser", "tokens", "LScheduleCheck$Tokens;", false)
  | 5 => ("ScheduleCheck$Parser", "at", "I", false)
  | 6 => ("ScheduleCheck$Parser", "token", "LScheduleCheck$Token;", false)
  | 7 => ("ScheduleCheck$Parser", "program", "LScheduleCheck$Program;", false)
  | 8 => ("ScheduleCheck$Parser", "fault", "I", false)
  | 9 => ("ScheduleCheck$Parser", "atoms", "I", false)
  | _ => ("ScheduleCheck$Parser", "uses", "I", false)
def t_zd2 : Nat → FieldType := fun k => match k with
  | 0 => .array .long
  | 1 => .array .int
  | 2 => .int
  | 3 => .int
  | 4 => .object "ScheduleCheck$Tokens"
  | 5 => .int
  | 6 => .object "ScheduleCheck$Token"
  | 7 => .object "ScheduleCheck$Program"
  | 8 => .int
  | 9 => .int
  | _ => .int
theorem n_zd2 : ∀ a, a < 11 → ∀ b, b < 11 → a ≠ b → (F_zd2 a).2.1 ≠ (F_zd2 b).2.1 := by decide +kernel
theorem t_zd2_ok : ∀ k, k < 11 → parseFieldDescriptor (F_zd2 k).2.2.1 = some (t_zd2 k) := by decide +kernel
def F_zd3 : u_T := fun k => match k with
  | 0 => ("ScheduleCheck$States", "cells", "[B", true)
  | 1 => ("ScheduleCheck$States", "depths", "[I", true)
  | 2 => ("ScheduleCheck$States", "parents", "[I", true)
  | 3 => ("ScheduleCheck$States", "movers", "[I", true)
  | 4 => ("ScheduleCheck$States", "steps", "[I", true)
  | 5 => ("ScheduleCheck$States", "stepsFrom", "[I", true)
  | 6 => ("ScheduleCheck$States", "hashes", "[I", true)
  | 7 => ("ScheduleCheck$States", "buckets", "[I", true)
  | 8 => ("ScheduleCheck$States", "chain", "[I", true)
  | 9 => ("ScheduleCheck$States", "size", "I", false)
  | 10 => ("ScheduleCheck$States", "stepCount", "I", false)
  | _ => ("ScheduleCheck$States", "overflows", "Z", false)
def t_zd3 : Nat → FieldType := fun k => match k with
  | 0 => .array .byte
  | 1 => .array .int
  | 2 => .array .int
  | 3 => .array .int
  | 4 => .array .int
  | 5 => .array .int
  | 6 => .array .int
  | 7 => .array .int
  | 8 => .array .int
  | 9 => .int
  | 10 => .int
  | _ => .boolean
theorem n_zd3 : ∀ a, a < 12 → ∀ b, b < 12 → a ≠ b → (F_zd3 a).2.1 ≠ (F_zd3 b).2.1 := by decide +kernel
theorem t_zd3_ok : ∀ k, k < 12 → parseFieldDescriptor (F_zd3 k).2.2.1 = some (t_zd3 k) := by decide +kernel
def F_zd4 : u_T := fun k => match k with
  | 0 => ("ScheduleCheck$Explorer", "states", "LScheduleCheck$States;", true)
  | _ => ("ScheduleCheck$Explorer", "program", "LScheduleCheck$Program;", false)
def t_zd4 : Nat → FieldType := fun k => match k with
  | 0 => .object "ScheduleCheck$States"
  | _ => .object "ScheduleCheck$Program"
theorem n_zd4 : ∀ a, a < 2 → ∀ b, b < 2 → a ≠ b → (F_zd4 a).2.1 ≠ (F_zd4 b).2.1 := by decide +kernel
theorem t_zd4_ok : ∀ k, k < 2 → parseFieldDescriptor (F_zd4 k).2.2.1 = some (t_zd4 k) := by decide +kernel
def F_zd5 : u_T := fun k => match k with
  | 0 => ("ScheduleCheck$Program", "variables", "I", false)
  | 1 => ("ScheduleCheck$Program", "locks", "I", false)
  | 2 => ("ScheduleCheck$Program", "threads", "I", false)
  | 3 => ("ScheduleCheck$Program", "size", "I", false)
  | 4 => ("ScheduleCheck$Program", "firstValues", "[I", true)
  | 5 => ("ScheduleCheck$Program", "locals", "[I", true)
  | 6 => ("ScheduleCheck$Program", "entries", "[I", true)
  | 7 => ("ScheduleCheck$Program", "statements", "[LScheduleCheck$Statement;", true)
  | _ => ("ScheduleCheck$Program", "code", "LScheduleCheck$Code;", true)
def t_zd5 : Nat → FieldType := fun k => match k with
  | 0 => .int
  | 1 => .int
  | 2 => .int
  | 3 => .int
  | 4 => .array .int
  | 5 => .array .int
  | 6 => .array .int
  | 7 => .array (.object "ScheduleCheck$Statement")
  | _ => .object "ScheduleCheck$Code"
theorem n_zd5 : ∀ a, a < 9 → ∀ b, b < 9 → a ≠ b → (F_zd5 a).2.1 ≠ (F_zd5 b).2.1 := by decide +kernel
theorem t_zd5_ok : ∀ k, k < 9 → parseFieldDescriptor (F_zd5 k).2.2.1 = some (t_zd5 k) := by decide +kernel
def F_zd6 : u_T := fun k => match k with
  | 0 => ("ScheduleCheck$Statement", "kind", "LScheduleCheck$Kind;", false)
  | 1 => ("ScheduleCheck$Statement", "parent", "I", false)
  | 2 => ("ScheduleCheck$Statement", "target", "I", false)
  | 3 => ("ScheduleCheck$Statement", "codeFrom", "I", false)
  | 4 => ("ScheduleCheck$Statement", "codeTo", "I", false)
  | 5 => ("ScheduleCheck$Statement", "yes", "I", false)
  | 6 => ("ScheduleCheck$Statement", "no", "I", false)
  | 7 => ("ScheduleCheck$Statement", "follow", "I", false)
  | _ => ("ScheduleCheck$Statement", "uses", "I", false)
def t_zd6 : Nat → FieldType := fun k => match k with
  | 0 => .object "ScheduleCheck$Kind"
  | 1 => .int
  | 2 => .int
  | 3 => .int
  | 4 => .int
  | 5 => .int
  | 6 => .int
  | 7 => .int
  | _ => .int
theorem n_zd6 : ∀ a, a < 9 → ∀ b, b < 9 → a ≠ b → (F_zd6 a).2.1 ≠ (F_zd6 b).2.1 := by decide +kernel
theorem t_zd6_ok : ∀ k, k < 9 → parseFieldDescriptor (F_zd6 k).2.2.1 = some (t_zd6 k) := by decide +kernel
def F_zd7 : u_T := fun k => match k with
  | 0 => ("ScheduleCheck$Code", "signs", "[LScheduleCheck$Token;", true)
  | 1 => ("ScheduleCheck$Code", "operands", "[I", true)
  | 2 => ("ScheduleCheck$Code", "stack", "[I", true)
  | _ => ("ScheduleCheck$Code", "size", "I", false)
def t_zd7 : Nat → FieldType := fun k => match k with
  | 0 => .array (.object "ScheduleCheck$Token")
  | 1 => .array .int
  | 2 => .array .int
  | _ => .int
theorem n_zd7 : ∀ a, a < 4 → ∀ b, b < 4 → a ≠ b → (F_zd7 a).2.1 ≠ (F_zd7 b).2.1 := by decide +kernel
theorem t_zd7_ok : ∀ k, k < 4 → parseFieldDescriptor (F_zd7 k).2.2.1 = some (t_zd7 k) := by decide +kernel
def F_zd8 : u_T := fun k => match k with
  | 0 => ("ScheduleCheckModel", "tape", "[B", true)
  | 1 => ("ScheduleCheckModel", "tapeMany", "I", false)
  | 2 => ("ScheduleCheckModel", "program", "LScheduleCheckModel$Program;", false)
  | 3 => ("ScheduleCheckModel", "spare", "LScheduleCheckModel$Program;", false)
  | 4 => ("ScheduleCheckModel", "there", "Z", false)
  | 5 => ("ScheduleCheckModel", "size", "I", false)
  | 6 => ("ScheduleCheckModel", "next", "I", false)
  | 7 => ("ScheduleCheckModel", "kind", "I", false)
  | 8 => ("ScheduleCheckModel", "from", "I", false)
  | 9 => ("ScheduleCheckModel", "to", "I", false)
  | 10 => ("ScheduleCheckModel", "number", "I", false)
  | 11 => ("ScheduleCheckModel", "fault", "I", false)
  | 12 => ("ScheduleCheckModel", "p", "LScheduleCheckModel$Program;", false)
  | 13 => ("ScheduleCheckModel", "locals", "LScheduleCheckModel$Names;", false)
  | 14 => ("ScheduleCheckModel", "atoms", "I", false)
  | 15 => ("ScheduleCheckModel", "open", "[I", true)
  | 16 => ("ScheduleCheckModel", "opened", "I", false)
  | 17 => ("ScheduleCheckModel", "row", "[I", true)
  | 18 => ("ScheduleCheckModel", "depth", "[I", true)
  | 19 => ("ScheduleCheckModel", "last", "[I", true)
  | 20 => ("ScheduleCheckModel", "before", "[I", true)
  | 21 => ("ScheduleCheckModel", "firstNext", "[I", true)
  | 22 => ("ScheduleCheckModel", "nextOne", "[I", true)
  | 23 => ("ScheduleCheckModel", "states", "I", false)
  | 24 => ("ScheduleCheckModel", "ways", "I", false)
  | 25 => ("ScheduleCheckModel", "now", "[I", true)
  | 26 => ("ScheduleCheckModel", "then", "[I", true)
  | 27 => ("ScheduleCheckModel", "stack", "[I", true)
  | 28 => ("ScheduleCheckModel", "at", "I", false)
  | 29 => ("ScheduleCheckModel", "thread", "I", false)
  | _ => ("ScheduleCheckModel", "seen", "[Z", true)
def t_zd8 : Nat → FieldType := fun k => match k with
  | 0 => .array .byte
  | 1 => .int
  | 2 => .object "ScheduleCheckModel$Program"
  | 3 => .object "ScheduleCheckModel$Program"
  | 4 => .boolean
  | 5 => .int
  | 6 => .int
  | 7 => .int
  | 8 => .int
  | 9 => .int
  | 10 => .int
  | 11 => .int
  | 12 => .object "ScheduleCheckModel$Program"
  | 13 => .object "ScheduleCheckModel$Names"
  | 14 => .int
  | 15 => .array .int
  | 16 => .int
  | 17 => .array .int
  | 18 => .array .int
  | 19 => .array .int
  | 20 => .array .int
  | 21 => .array .int
  | 22 => .array .int
  | 23 => .int
  | 24 => .int
  | 25 => .array .int
  | 26 => .array .int
  | 27 => .array .int
  | 28 => .int
  | 29 => .int
  | _ => .array .boolean
theorem n_zd8 : ∀ a, a < 31 → ∀ b, b < 31 → a ≠ b → (F_zd8 a).2.1 ≠ (F_zd8 b).2.1 := by decide +kernel
theorem t_zd8_ok : ∀ k, k < 31 → parseFieldDescriptor (F_zd8 k).2.2.1 = some (t_zd8 k) := by decide +kernel
def F_zd9 : u_T := fun k => match k with
  | 0 => ("ScheduleCheckModel$Program", "variables", "LScheduleCheckModel$Names;", true)
  | 1 => ("ScheduleCheckModel$Program", "locks", "LScheduleCheckModel$Names;", true)
  | 2 => ("ScheduleCheckModel$Program", "locals", "[LScheduleCheckModel$Names;", true)
  | 3 => ("ScheduleCheckModel$Program", "initial", "[I", true)
  | 4 => ("ScheduleCheckModel$Program", "start", "[I", true)
  | 5 => ("ScheduleCheckModel$Program", "threads", "I", false)
  | 6 => ("ScheduleCheckModel$Program", "statements", "I", false)
  | 7 => ("ScheduleCheckModel$Program", "kind", "[I", true)
  | 8 => ("ScheduleCheckModel$Program", "what", "[I", true)
  | 9 => ("ScheduleCheckModel$Program", "expression", "[I", true)
  | 10 => ("ScheduleCheckModel$Program", "to", "[I", true)
  | 11 => ("ScheduleCheckModel$Program", "step", "[I", true)
  | _ => ("ScheduleCheckModel$Program", "many", "I", false)
def t_zd9 : Nat → FieldType := fun k => match k with
  | 0 => .object "ScheduleCheckModel$Names"
  | 1 => .object "ScheduleCheckModel$Names"
  | 2 => .array (.object "ScheduleCheckModel$Names")
  | 3 => .array .int
  | 4 => .array .int
  | 5 => .int
  | 6 => .int
  | 7 => .array .int
  | 8 => .array .int
  | 9 => .array .int
  | 10 => .array .int
  | 11 => .array .int
  | _ => .int
theorem n_zd9 : ∀ a, a < 13 → ∀ b, b < 13 → a ≠ b → (F_zd9 a).2.1 ≠ (F_zd9 b).2.1 := by decide +kernel
theorem t_zd9_ok : ∀ k, k < 13 → parseFieldDescriptor (F_zd9 k).2.2.1 = some (t_zd9 k) := by decide +kernel
def F_zd10 : u_T := fun k => match k with
  | 0 => ("ScheduleCheckModel$Names", "text", "[B", true)
  | 1 => ("ScheduleCheckModel$Names", "size", "[I", true)
  | _ => ("ScheduleCheckModel$Names", "many", "I", false)
def t_zd10 : Nat → FieldType := fun k => match k with
  | 0 => .array .byte
  | 1 => .array .int
  | _ => .int
theorem n_zd10 : ∀ a, a < 3 → ∀ b, b < 3 → a ≠ b → (F_zd10 a).2.1 ≠ (F_zd10 b).2.1 := by decide +kernel
theorem t_zd10_ok : ∀ k, k < 3 → parseFieldDescriptor (F_zd10 k).2.2.1 = some (t_zd10 k) := by decide +kernel
def zd_cl : List vw_C := [("ScheduleCheck", F_zd0, 9), ("ScheduleCheck$Tokens", F_zd1, 5), ("ScheduleCheck$Parser", F_zd2, 11), ("ScheduleCheck$States", F_zd3, 12), ("ScheduleCheck$Explorer", F_zd4, 2), ("ScheduleCheck$Program", F_zd5, 9), ("ScheduleCheck$Statement", F_zd6, 9), ("ScheduleCheck$Code", F_zd7, 4), ("ScheduleCheckModel", F_zd8, 31), ("ScheduleCheckModel$Program", F_zd9, 13), ("ScheduleCheckModel$Names", F_zd10, 3)]
def zd_F : List (List Nat) := [[3, 0, 3, 3, 3, 3, 2, 2, 3], [3, 3, 3, 0, 0], [3, 3, 0, 0, 2, 0, 2, 2, 0, 0, 0], [3, 3, 3, 3, 3, 3, 3, 3, 3, 0, 0, 0], [3, 2], [0, 0, 0, 0, 3, 3, 3, 3, 3], [2, 0, 0, 0, 0, 0, 0, 0, 0], [3, 3, 3, 0], [3, 0, 2, 2, 0, 0, 0, 0, 0, 0, 0, 0, 2, 2, 0, 3, 0, 3, 3, 3, 3, 3, 3, 0, 0, 3, 3, 3, 0, 0, 3], [3, 3, 3, 3, 3, 0, 0, 3, 3, 3, 3, 3, 0], [3, 3, 0]]
/-- 0 int, 1 long, 2 a reference that may change, 3 one that is set at the making (there: w = 2, 3, it is as 2) -/
def zd_ft (w c k : Nat) : Nat := match w, (zd_F.getD c []).getD k 9 with
  | 2, 3 => 2
  | 3, 3 => 2
  | _, t => t
def zd_N (c : Nat) : Nat := (zd_F.getD c []).length
def zd_T0 : List (Nat × Nat) := [(99, 0), (10, 0), (1, 1600), (11, 0), (4, 1601), (0, 1601), (3, 1601), (12, 0), (3, 15), (0, 15), (13, 0), (1, 27234), (0, 800), (0, 800), (0, 800), (0, 3200), (0, 801), (0, 800), (0, 1024), (0, 800), (15, 0), (0, 8), (0, 4), (0, 4), (5, 50), (16, 0), (16, 0), (16, 0), (16, 0), (16, 0), (16, 0), (16, 0), (16, 0), (16, 0), (16, 0), (16, 0), (16, 0), (16, 0), (16, 0), (16, 0), (16, 0), (16, 0), (16, 0), (16, 0), (16, 0), (16, 0), (16, 0), (16, 0), (16, 0), (16, 0), (16, 0), (16, 0), (16, 0), (16, 0), (16, 0), (16, 0), (16, 0), (16, 0), (16, 0), (16, 0), (16, 0), (16, 0), (16, 0), (16, 0), (16, 0), (16, 0), (16, 0), (16, 0), (16, 0), (16, 0), (16, 0), (16, 0), (16, 0), (16, 0), (16, 0), (17, 0), (4, 1600), (0, 1600), (0, 150), (15, 0), (0, 8), (0, 4), (0, 4), (5, 50), (16, 0), (16, 0), (16, 0), (16, 0), (16, 0), (16, 0), (16, 0), (16, 0), (16, 0), (16, 0), (16, 0), (16, 0), (16, 0), (16, 0), (16, 0), (16, 0), (16, 0), (16, 0), (16, 0), (16, 0), (16, 0), (16, 0), (16, 0), (16, 0), (16, 0), (16, 0), (16, 0), (16, 0), (16, 0), (16, 0), (16, 0), (16, 0), (16, 0), (16, 0), (16, 0), (16, 0), (16, 0), (16, 0), (16, 0), (16, 0), (16, 0), (16, 0), (16, 0), (16, 0), (16, 0), (16, 0), (16, 0), (16, 0), (16, 0), (16, 0), (17, 0), (4, 1600), (0, 1600), (0, 150), (14, 0), (1, 256)]
def zd_R0 : List (List Nat) := [[], [2, 0, 3, 7, 10, 138, 0, 0, 139], [], [4, 5, 6], [], [], [], [8, 9], [], [], [11, 12, 13, 14, 15, 16, 17, 18, 19], [], [], [], [], [], [], [], [], [], [0, 0, 0, 0, 21, 22, 23, 24, 75], [], [], [], [25, 26, 27, 28, 29, 30, 31, 32, 33, 34, 35, 36, 37, 38, 39, 40, 41, 42, 43, 44, 45, 46, 47, 48, 49, 50, 51, 52, 53, 54, 55, 56, 57, 58, 59, 60, 61, 62, 63, 64, 65, 66, 67, 68, 69, 70, 71, 72, 73, 74], [], [], [], [], [], [], [], [], [], [], [], [], [], [], [], [], [], [], [], [], [], [], [], [], [], [], [], [], [], [], [], [], [], [], [], [], [], [], [], [], [], [], [], [], [], [], [], [], [], [], [76, 77, 78], [], [], [], [0, 0, 0, 0, 80, 81, 82, 83, 134], [], [], [], [84, 85, 86, 87, 88, 89, 90, 91, 92, 93, 94, 95, 96, 97, 98, 99, 100, 101, 102, 103, 104, 105, 106, 107, 108, 109, 110, 111, 112, 113, 114, 115, 116, 117, 118, 119, 120, 121, 122, 123, 124, 125, 126, 127, 128, 129, 130, 131, 132, 133], [], [], [], [], [], [], [], [], [], [], [], [], [], [], [], [], [], [], [], [], [], [], [], [], [], [], [], [], [], [], [], [], [], [], [], [], [], [], [], [], [], [], [], [], [], [], [], [], [], [], [135, 136, 137], [], [], [], [10], []]
def zd_T1 : List (Nat × Nat) := [(99, 0), (18, 0), (1, 1600), (19, 0), (20, 0), (1, 64), (0, 8), (20, 0), (1, 32), (0, 4), (6, 4), (0, 8), (0, 4), (0, 50), (0, 50), (0, 50), (0, 150), (0, 6400), (20, 0), (1, 24), (0, 3), (20, 0), (1, 24), (0, 3), (20, 0), (1, 24), (0, 3), (20, 0), (1, 24), (0, 3), (19, 0), (20, 0), (1, 64), (0, 8), (20, 0), (1, 32), (0, 4), (6, 4), (0, 8), (0, 4), (0, 50), (0, 50), (0, 50), (0, 150), (0, 6400), (20, 0), (1, 24), (0, 3), (20, 0), (1, 24), (0, 3), (20, 0), (1, 24), (0, 3), (20, 0), (1, 24), (0, 3), (0, 200), (0, 27234), (0, 801), (0, 801), (0, 801), (0, 802), (0, 12800), (0, 34), (0, 34), (0, 166), (2, 256)]
def zd_R1 : List (List Nat) := [[], [2, 0, 0, 0, 0, 0, 0, 0, 0, 0, 0, 0, 0, 0, 0, 57, 0, 58, 59, 60, 61, 62, 63, 0, 0, 64, 65, 66, 0, 0, 67], [], [4, 7, 10, 11, 12, 0, 0, 13, 14, 15, 16, 17], [5, 6], [], [], [8, 9], [], [], [18, 21, 24, 27], [], [], [], [], [], [], [], [19, 20], [], [], [22, 23], [], [], [25, 26], [], [], [28, 29], [], [], [31, 34, 37, 38, 39, 0, 0, 40, 41, 42, 43, 44], [32, 33], [], [], [35, 36], [], [], [45, 48, 51, 54], [], [], [], [], [], [], [], [46, 47], [], [], [49, 50], [], [], [52, 53], [], [], [55, 56], [], [], [], [], [], [], [], [], [], [], [], [], []]
def zd_mv (q : Nat × Nat) : Nat × Nat := match q.1 with
  | 5 => (7, q.2)
  | 6 => (8, q.2)
  | _ => q
def zd_T (w : Nat) : List (Nat × Nat) := match w with
  | 0 => zd_T0
  | 1 => zd_T1
  | 2 => zd_T0.map zd_mv
  | _ => zd_T1.map zd_mv
def zd_R (w : Nat) : List (List Nat) := match w with
  | 0 => zd_R0
  | 2 => zd_R0
  | _ => zd_R1
def zd_sh (w o : Nat) : Nat × Nat := (zd_T w).getD o (99, 0)
def zd_rf (w o k : Nat) : Nat := ((zd_R w).getD o []).getD k 0
def zd_M (w : Nat) : Nat := match w with
  | 0 => 139
  | 2 => 139
  | _ => 67
def zd_L (w : Nat) : List Nat := List.range' 1 (zd_M w)
def zd_LA (w : Nat) : List Nat := (zd_L w).filter (fun o => decide ((zd_sh w o).1 < 10))
def zd_ty (t : Nat) : FieldType := match t with
  | 0 => .int
  | 1 => .byte
  | 2 => .boolean
  | 3 => .long
  | 4 => .object "ScheduleCheck$Token"
  | 5 => .object "ScheduleCheck$Statement"
  | 7 => .object "ScheduleCheck$Statement"
  | _ => .object "ScheduleCheckModel$Names"
abbrev zd_tok : String := "ScheduleCheck$Token"
theorem zd_len (w : Nat) : (zd_T w).length = zd_M w + 1 := by
  match w with
  | 0 => decide +kernel
  | 1 => decide +kernel
  | 2 => decide +kernel
  | n + 3 => show (zd_T1.map zd_mv).length = 68; decide +kernel
theorem zd_sh0 (w : Nat) : zd_sh w 0 = (99, 0) := by
  match w with
  | 0 => rfl
  | 1 => rfl
  | 2 => rfl
  | n + 3 => rfl
theorem zd_in {w o t : Nat} (h : (zd_sh w o).1 = t) (ht : t < 99) : o ∈ zd_L w := by
  have h1 : o < zd_M w + 1 := by
    apply Nat.lt_of_not_le
    intro hle
    have h2 : zd_sh w o = (99, 0) := by
      unfold zd_sh
      rw [List.getD_eq_getElem?_getD, List.getElem?_eq_none (by rw [zd_len]; exact hle)]
      rfl
    rw [h2] at h
    subst h
    exact absurd ht (by decide)
  have h0 : o ≠ 0 := by
    intro e
    subst e
    rw [zd_sh0] at h
    subst h
    exact absurd ht (by decide)
  exact List.mem_range'_1.mpr ⟨by omega, by omega⟩
theorem zd_lt {c : Nat} {q : vw_C} (h : zd_cl[c]? = some q) : 10 + c < 99 := by
  have h1 := (List.getElem?_eq_some_iff.mp h).1
  have h2 : zd_cl.length = 11 := rfl
  omega
def zd_ww : List Cond := lw_tbl.filter goodWord
theorem zd_ok {w : Cond} (h : w ∈ zd_ww) : (w.onTables && w.keeps) = true ∨ ∃ ty, w = .arrayClass ty := good_of_word (List.mem_filter.mp h).2
theorem zd_me {w : Cond} (i : Nat) (h : tables_1[i]? = some w) (h2 : goodWord w = true) : w ∈ zd_ww := List.mem_filter.mpr ⟨List.mem_append_right _ (List.mem_of_getElem? h), h2⟩
theorem zd_ms {w : Cond} (i : Nat) (h : (k2_sels lw_privs)[i]? = some w) (h2 : goodWord w = true) : w ∈ zd_ww := List.mem_filter.mpr ⟨List.mem_append_left _ (List.mem_of_getElem? h), h2⟩
theorem zi_0 : ∀ w ∈ u_ws "ScheduleCheck" F_zd0 9, w ∈ zd_ww := by
  intro w h
  obtain ⟨k, hk, e⟩ := List.mem_map.mp h
  have hk := List.mem_range.mp hk
  subst e
  by_cases h0 : k = 0
  · subst h0
    exact zd_me 308 (by decide +kernel) (by decide +kernel)
  by_cases h1 : k = 1
  · subst h1
    exact zd_me 310 (by decide +kernel) (by decide +kernel)
  by_cases h2 : k = 2
  · subst h2
    exact zd_me 312 (by decide +kernel) (by decide +kernel)
  by_cases h3 : k = 3
  · subst h3
    exact zd_me 314 (by decide +kernel) (by decide +kernel)
  by_cases h4 : k = 4
  · subst h4
    exact zd_me 316 (by decide +kernel) (by decide +kernel)
  by_cases h5 : k = 5
  · subst h5
    exact zd_me 318 (by decide +kernel) (by decide +kernel)
  by_cases h6 : k = 6
  · subst h6
    exact zd_me 320 (by decide +kernel) (by decide +kernel)
  by_cases h7 : k = 7
  · subst h7
    exact zd_me 322 (by decide +kernel) (by decide +kernel)
  by_cases h8 : k = 8
  · subst h8
    exact zd_me 324 (by decide +kernel) (by decide +kernel)
  exact absurd hk (by omega)
theorem zi_1 : ∀ w ∈ u_ws "ScheduleCheck$Tokens" F_zd1 5, w ∈ zd_ww := by
  intro w h
  obtain ⟨k, hk, e⟩ := List.mem_map.mp h
  have hk := List.mem_range.mp hk
  subst e
  by_cases h0 : k = 0
  · subst h0
    exact zd_me 47 (by decide +kernel) (by decide +kernel)
  by_cases h1 : k = 1
  · subst h1
    exact zd_me 49 (by decide +kernel) (by decide +kernel)
  by_cases h2 : k = 2
  · subst h2
    exact zd_me 51 (by decide +kernel) (by decide +kernel)
  by_cases h3 : k = 3
  · subst h3
    exact zd_me 53 (by decide +kernel) (by decide +kernel)
  by_cases h4 : k = 4
  · subst h4
    exact zd_me 55 (by decide +kernel) (by decide +kernel)
  exact absurd hk (by omega)
theorem zi_2 : ∀ w ∈ u_ws "ScheduleCheck$Parser" F_zd2 11, w ∈ zd_ww := by
  intro w h
  obtain ⟨k, hk, e⟩ := List.mem_map.mp h
  have hk := List.mem_range.mp hk
  subst e
  by_cases h0 : k = 0
  · subst h0
    exact zd_me 78 (by decide +kernel) (by decide +kernel)
  by_cases h1 : k = 1
  · subst h1
    exact zd_me 80 (by decide +kernel) (by decide +kernel)
  by_cases h2 : k = 2
  · subst h2
    exact zd_me 82 (by decide +kernel) (by decide +kernel)
  by_cases h3 : k = 3
  · subst h3
    exact zd_me 84 (by decide +kernel) (by decide +kernel)
  by_cases h4 : k = 4
  · subst h4
    exact zd_me 86 (by decide +kernel) (by decide +kernel)
  by_cases h5 : k = 5
  · subst h5
    exact zd_me 88 (by decide +kernel) (by decide +kernel)
  by_cases h6 : k = 6
  · subst h6
    exact zd_me 90 (by decide +kernel) (by decide +kernel)
  by_cases h7 : k = 7
  · subst h7
    exact zd_me 92 (by decide +kernel) (by decide +kernel)
  by_cases h8 : k = 8
  · subst h8
    exact zd_me 94 (by decide +kernel) (by decide +kernel)
  by_cases h9 : k = 9
  · subst h9
    exact zd_me 96 (by decide +kernel) (by decide +kernel)
  by_cases h10 : k = 10
  · subst h10
    exact zd_me 98 (by decide +kernel) (by decide +kernel)
  exact absurd hk (by omega)
theorem zi_3 : ∀ w ∈ u_ws "ScheduleCheck$States" F_zd3 12, w ∈ zd_ww := by
  intro w h
  obtain ⟨k, hk, e⟩ := List.mem_map.mp h
  have hk := List.mem_range.mp hk
  subst e
  by_cases h0 : k = 0
  · subst h0
    exact zd_me 128 (by decide +kernel) (by decide +kernel)
  by_cases h1 : k = 1
  · subst h1
    exact zd_me 130 (by decide +kernel) (by decide +kernel)
  by_cases h2 : k = 2
  · subst h2
    exact zd_me 132 (by decide +kernel) (by decide +kernel)
  by_cases h3 : k = 3
  · subst h3
    exact zd_me 134 (by decide +kernel) (by decide +kernel)
  by_cases h4 : k = 4
  · subst h4
    exact zd_me 136 (by decide +kernel) (by decide +kernel)
  by_cases h5 : k = 5
  · subst h5
    exact zd_me 138 (by decide +kernel) (by decide +kernel)
  by_cases h6 : k = 6
  · subst h6
    exact zd_me 140 (by decide +kernel) (by decide +kernel)
  by_cases h7 : k = 7
  · subst h7
    exact zd_me 142 (by decide +kernel) (by decide +kernel)
  by_cases h8 : k = 8
  · subst h8
    exact zd_me 144 (by decide +kernel) (by decide +kernel)
  by_cases h9 : k = 9
  · subst h9
    exact zd_me 146 (by decide +kernel) (by decide +kernel)
  by_cases h10 : k = 10
  · subst h10
    exact zd_me 148 (by decide +kernel) (by decide +kernel)
  by_cases h11 : k = 11
  · subst h11
    exact zd_me 150 (by decide +kernel) (by decide +kernel)
  exact absurd hk (by omega)
theorem zi_4 : ∀ w ∈ u_ws "ScheduleCheck$Explorer" F_zd4 2, w ∈ zd_ww := by
  intro w h
  obtain ⟨k, hk, e⟩ := List.mem_map.mp h
  have hk := List.mem_range.mp hk
  subst e
  by_cases h0 : k = 0
  · subst h0
    exact zd_me 294 (by decide +kernel) (by decide +kernel)
  by_cases h1 : k = 1
  · subst h1
    exact zd_me 296 (by decide +kernel) (by decide +kernel)
  exact absurd hk (by omega)
theorem zi_5 : ∀ w ∈ u_ws "ScheduleCheck$Program" F_zd5 9, w ∈ zd_ww := by
  intro w h
  obtain ⟨k, hk, e⟩ := List.mem_map.mp h
  have hk := List.mem_range.mp hk
  subst e
  by_cases h0 : k = 0
  · subst h0
    exact zd_me 267 (by decide +kernel) (by decide +kernel)
  by_cases h1 : k = 1
  · subst h1
    exact zd_me 269 (by decide +kernel) (by decide +kernel)
  by_cases h2 : k = 2
  · subst h2
    exact zd_me 271 (by decide +kernel) (by decide +kernel)
  by_cases h3 : k = 3
  · subst h3
    exact zd_me 273 (by decide +kernel) (by decide +kernel)
  by_cases h4 : k = 4
  · subst h4
    exact zd_me 275 (by decide +kernel) (by decide +kernel)
  by_cases h5 : k = 5
  · subst h5
    exact zd_me 277 (by decide +kernel) (by decide +kernel)
  by_cases h6 : k = 6
  · subst h6
    exact zd_me 279 (by decide +kernel) (by decide +kernel)
  by_cases h7 : k = 7
  · subst h7
    exact zd_me 281 (by decide +kernel) (by decide +kernel)
  by_cases h8 : k = 8
  · subst h8
    exact zd_me 283 (by decide +kernel) (by decide +kernel)
  exact absurd hk (by omega)
theorem zi_6 : ∀ w ∈ u_ws "ScheduleCheck$Statement" F_zd6 9, w ∈ zd_ww := by
  intro w h
  obtain ⟨k, hk, e⟩ := List.mem_map.mp h
  have hk := List.mem_range.mp hk
  subst e
  by_cases h0 : k = 0
  · subst h0
    exact zd_me 197 (by decide +kernel) (by decide +kernel)
  by_cases h1 : k = 1
  · subst h1
    exact zd_me 199 (by decide +kernel) (by decide +kernel)
  by_cases h2 : k = 2
  · subst h2
    exact zd_me 201 (by decide +kernel) (by decide +kernel)
  by_cases h3 : k = 3
  · subst h3
    exact zd_me 203 (by decide +kernel) (by decide +kernel)
  by_cases h4 : k = 4
  · subst h4
    exact zd_me 205 (by decide +kernel) (by decide +kernel)
  by_cases h5 : k = 5
  · subst h5
    exact zd_me 207 (by decide +kernel) (by decide +kernel)
  by_cases h6 : k = 6
  · subst h6
    exact zd_me 209 (by decide +kernel) (by decide +kernel)
  by_cases h7 : k = 7
  · subst h7
    exact zd_me 211 (by decide +kernel) (by decide +kernel)
  by_cases h8 : k = 8
  · subst h8
    exact zd_me 213 (by decide +kernel) (by decide +kernel)
  exact absurd hk (by omega)
theorem zi_7 : ∀ w ∈ u_ws "ScheduleCheck$Code" F_zd7 4, w ∈ zd_ww := by
  intro w h
  obtain ⟨k, hk, e⟩ := List.mem_map.mp h
  have hk := List.mem_range.mp hk
  subst e
  by_cases h0 : k = 0
  · subst h0
    exact zd_me 229 (by decide +kernel) (by decide +kernel)
  by_cases h1 : k = 1
  · subst h1
    exact zd_me 231 (by decide +kernel) (by decide +kernel)
  by_cases h2 : k = 2
  · subst h2
    exact zd_me 233 (by decide +kernel) (by decide +kernel)
  by_cases h3 : k = 3
  · subst h3
    exact zd_me 235 (by decide +kernel) (by decide +kernel)
  exact absurd hk (by omega)
theorem zi_8 : ∀ w ∈ u_ws "ScheduleCheckModel" F_zd8 31, w ∈ zd_ww := by
  intro w h
  obtain ⟨k, hk, e⟩ := List.mem_map.mp h
  have hk := List.mem_range.mp hk
  subst e
  by_cases h0 : k = 0
  · subst h0
    exact zd_me 917 (by decide +kernel) (by decide +kernel)
  by_cases h1 : k = 1
  · subst h1
    exact zd_me 919 (by decide +kernel) (by decide +kernel)
  by_cases h2 : k = 2
  · subst h2
    exact zd_me 921 (by decide +kernel) (by decide +kernel)
  by_cases h3 : k = 3
  · subst h3
    exact zd_me 923 (by decide +kernel) (by decide +kernel)
  by_cases h4 : k = 4
  · subst h4
    exact zd_me 925 (by decide +kernel) (by decide +kernel)
  by_cases h5 : k = 5
  · subst h5
    exact zd_me 927 (by decide +kernel) (by decide +kernel)
  by_cases h6 : k = 6
  · subst h6
    exact zd_me 929 (by decide +kernel) (by decide +kernel)
  by_cases h7 : k = 7
  · subst h7
    exact zd_me 931 (by decide +kernel) (by decide +kernel)
  by_cases h8 : k = 8
  · subst h8
    exact zd_me 933 (by decide +kernel) (by decide +kernel)
  by_cases h9 : k = 9
  · subst h9
    exact zd_me 935 (by decide +kernel) (by decide +kernel)
  by_cases h10 : k = 10
  · subst h10
    exact zd_me 937 (by decide +kernel) (by decide +kernel)
  by_cases h11 : k = 11
  · subst h11
    exact zd_me 939 (by decide +kernel) (by decide +kernel)
  by_cases h12 : k = 12
  · subst h12
    exact zd_me 941 (by decide +kernel) (by decide +kernel)
  by_cases h13 : k = 13
  · subst h13
    exact zd_me 943 (by decide +kernel) (by decide +kernel)
  by_cases h14 : k = 14
  · subst h14
    exact zd_me 945 (by decide +kernel) (by decide +kernel)
  by_cases h15 : k = 15
  · subst h15
    exact zd_me 947 (by decide +kernel) (by decide +kernel)
  by_cases h16 : k = 16
  · subst h16
    exact zd_me 949 (by decide +kernel) (by decide +kernel)
  by_cases h17 : k = 17
  · subst h17
    exact zd_me 951 (by decide +kernel) (by decide +kernel)
  by_cases h18 : k = 18
  · subst h18
    exact zd_me 953 (by decide +kernel) (by decide +kernel)
  by_cases h19 : k = 19
  · subst h19
    exact zd_me 955 (by decide +kernel) (by decide +kernel)
  by_cases h20 : k = 20
  · subst h20
    exact zd_me 957 (by decide +kernel) (by decide +kernel)
  by_cases h21 : k = 21
  · subst h21
    exact zd_me 959 (by decide +kernel) (by decide +kernel)
  by_cases h22 : k = 22
  · subst h22
    exact zd_me 961 (by decide +kernel) (by decide +kernel)
  by_cases h23 : k = 23
  · subst h23
    exact zd_me 963 (by decide +kernel) (by decide +kernel)
  by_cases h24 : k = 24
  · subst h24
    exact zd_me 965 (by decide +kernel) (by decide +kernel)
  by_cases h25 : k = 25
  · subst h25
    exact zd_me 967 (by decide +kernel) (by decide +kernel)
  by_cases h26 : k = 26
  · subst h26
    exact zd_me 969 (by decide +kernel) (by decide +kernel)
  by_cases h27 : k = 27
  · subst h27
    exact zd_me 971 (by decide +kernel) (by decide +kernel)
  by_cases h28 : k = 28
  · subst h28
    exact zd_me 973 (by decide +kernel) (by decide +kernel)
  by_cases h29 : k = 29
  · subst h29
    exact zd_me 975 (by decide +kernel) (by decide +kernel)
  by_cases h30 : k = 30
  · subst h30
    exact zd_me 977 (by decide +kernel) (by decide +kernel)
  exact absurd hk (by omega)
theorem zi_9 : ∀ w ∈ u_ws "ScheduleCheckModel$Program" F_zd9 13, w ∈ zd_ww := by
  intro w h
  obtain ⟨k, hk, e⟩ := List.mem_map.mp h
  have hk := List.mem_range.mp hk
  subst e
  by_cases h0 : k = 0
  · subst h0
    exact zd_me 859 (by decide +kernel) (by decide +kernel)
  by_cases h1 : k = 1
  · subst h1
    exact zd_me 861 (by decide +kernel) (by decide +kernel)
  by_cases h2 : k = 2
  · subst h2
    exact zd_me 863 (by decide +kernel) (by decide +kernel)
  by_cases h3 : k = 3
  · subst h3
    exact zd_me 865 (by decide +kernel) (by decide +kernel)
  by_cases h4 : k = 4
  · subst h4
    exact zd_me 867 (by decide +kernel) (by decide +kernel)
  by_cases h5 : k = 5
  · subst h5
    exact zd_me 869 (by decide +kernel) (by decide +kernel)
  by_cases h6 : k = 6
  · subst h6
    exact zd_me 871 (by decide +kernel) (by decide +kernel)
  by_cases h7 : k = 7
  · subst h7
    exact zd_me 873 (by decide +kernel) (by decide +kernel)
  by_cases h8 : k = 8
  · subst h8
    exact zd_me 875 (by decide +kernel) (by decide +kernel)
  by_cases h9 : k = 9
  · subst h9
    exact zd_me 877 (by decide +kernel) (by decide +kernel)
  by_cases h10 : k = 10
  · subst h10
    exact zd_me 879 (by decide +kernel) (by decide +kernel)
  by_cases h11 : k = 11
  · subst h11
    exact zd_me 881 (by decide +kernel) (by decide +kernel)
  by_cases h12 : k = 12
  · subst h12
    exact zd_me 883 (by decide +kernel) (by decide +kernel)
  exact absurd hk (by omega)
theorem zi_10 : ∀ w ∈ u_ws "ScheduleCheckModel$Names" F_zd10 3, w ∈ zd_ww := by
  intro w h
  obtain ⟨k, hk, e⟩ := List.mem_map.mp h
  have hk := List.mem_range.mp hk
  subst e
  by_cases h0 : k = 0
  · subst h0
    exact zd_me 828 (by decide +kernel) (by decide +kernel)
  by_cases h1 : k = 1
  · subst h1
    exact zd_me 830 (by decide +kernel) (by decide +kernel)
  by_cases h2 : k = 2
  · subst h2
    exact zd_me 832 (by decide +kernel) (by decide +kernel)
  exact absurd hk (by omega)
def zd_tn : List String := ["END", "BAD", "NAME", "NUMBER", "NEGATE", "VAR", "LOCK", "THREAD", "LOCAL", "TAKE", "GIVE", "WAIT", "WAKE", "ALL", "ASSERT", "IF", "ELSE", "WHILE", "STOP", "OPEN", "CLOSE", "LEFT", "RIGHT", "SEMICOLON", "GETS", "NOT", "OR", "AND", "EQUAL", "UNEQUAL", "LESS", "LESS_EQUAL", "GREATER", "GREATER_EQUAL", "PLUS", "MINUS", "TIMES"]
def zd_kn : List String := ["ASSIGN", "TAKE", "GIVE", "WAIT", "WAKE", "WAKE_ALL", "ASSERT", "IF", "WHILE", "STOP"]
def zd_tf : List (String × String × String × List Int32) := [("java/lang/Enum", "ordinal", "I", [0, 1, 2, 3, 4, 5, 6, 7, 8, 9, 10, 11, 12, 13, 14, 15, 16, 17, 18, 19, 20, 21, 22, 23, 24, 25, 26, 27, 28, 29, 30, 31, 32, 33, 34, 35, 36]), ("ScheduleCheck$Token", "length", "I", [0, 0, 0, 0, 0, 3, 4, 6, 5, 4, 4, 4, 4, 3, 6, 2, 4, 5, 4, 1, 1, 1, 1, 1, 1, 1, 2, 2, 2, 2, 1, 2, 1, 2, 1, 1, 1]), ("ScheduleCheck$Token", "level", "I", [-1, -1, -1, -1, -1, -1, -1, -1, -1, -1, -1, -1, -1, -1, -1, -1, -1, -1, -1, -1, -1, -1, -1, -1, -1, -1, 0, 1, 2, 2, 2, 2, 2, 2, 3, 3, 4])]
def zd_kf : List (String × String × String × List Int32) := [("java/lang/Enum", "ordinal", "I", [0, 1, 2, 3, 4, 5, 6, 7, 8, 9])]
def zd_tk : List Int64 := [0, 0, 0, 0, 0, 7758194, 1819239275, 127991944667492, 465725251948, 1952541541, 1734964837, 2002872692, 2002873189, 6384748, 107148485161588, 26982, 1701606245, 512852847717, 1937010544, 123, 125, 40, 41, 59, 61, 33, 31868, 9766, 15677, 8509, 60, 15421, 62, 15933, 43, 45, 42]
def zd_mt : List Int32 := [0, 0, 11, 0, 0, 0, 0, 0, 0, 12, 13, 14, 15, 0, 16, 18, 0, 19, 17, 0, 0, 0, 0, 0, 0, 0, 1, 2, 3, 4, 5, 6, 7, 8, 9, 10, 0]
def zd_mk : List Int32 := [1, 2, 3, 4, 5, 6, 7, 0, 0, 8]
def zd_sn : List (Nat × String) := [(107, "var"), (113, "lock"), (115, "thread"), (117, "local"), (119, "take"), (121, "give"), (123, "wait"), (125, "wake"), (127, "all"), (129, "assert"), (131, "if"), (133, "else"), (135, "while"), (137, "stop"), (199, "="), (201, "-"), (203, ";"), (207, "{"), (227, "}"), (234, "("), (239, ")"), (262, "||"), (267, "&&"), (272, "=="), (274, "!="), (276, "<"), (278, "<="), (280, ">"), (282, ">="), (287, "+"), (292, "*"), (294, "!")]
def zd_sl : List Nat := [3, 4, 6, 5, 4, 4, 4, 4, 3, 6, 2, 4, 5, 4, 1, 1, 1, 1, 1, 1, 1, 2, 2, 2, 2, 1, 2, 1, 2, 1, 1, 1]
def zd_sb : List (List Int32) := [[118, 97, 114], [108, 111, 99, 107], [116, 104, 114, 101, 97, 100], [108, 111, 99, 97, 108], [116, 97, 107, 101], [103, 105, 118, 101], [119, 97, 105, 116], [119, 97, 107, 101], [97, 108, 108], [97, 115, 115, 101, 114, 116], [105, 102], [101, 108, 115, 101], [119, 104, 105, 108, 101], [115, 116, 111, 112], [61], [45], [59], [123], [125], [40], [41], [124, 124], [38, 38], [61, 61], [33, 61], [60], [60, 61], [62], [62, 61], [43], [42], [33]]
/-- what the class reads of statics: the tokens (names 1000 ..), the kinds (1100 ..), the row of all tokens (1200), the two tables of the switches (1201, 1202) -/
def zs_Za (ad : Nat → Nat) (A : Nat → Prop) (U : State) (H : Heap) : Prop :=
  va_En "ScheduleCheck$Token" "LScheduleCheck$Token;" zd_tn zd_tf (fun i => ad (1000 + i)) A U H ∧
  va_Ef 37 "ScheduleCheck$Token" "key" "J" (fun i => .long (zd_tk.getD i 0)) (fun i => ad (1000 + i)) A U H ∧
  va_En "ScheduleCheck$Kind" "LScheduleCheck$Kind;" zd_kn zd_kf (fun i => ad (1100 + i)) A U H ∧
  va_Z "ScheduleCheck$Token" "EVERY" "[LScheduleCheck$Token;" (.ref (ad 1200)) A U H ∧ va_T (.object "ScheduleCheck$Token") (ad 1200) 37 (fun j => .ref (ad (1000 + j))) A U H ∧
  va_Z "ScheduleCheck$1" "$SwitchMap$ScheduleCheck$Token" "[I" (.ref (ad 1201)) A U H ∧ va_T .int (ad 1201) 37 (fun j => .int (zd_mt.getD j 0)) A U H ∧
  va_Z "ScheduleCheck$1" "$SwitchMap$ScheduleCheck$Kind" "[I" (.ref (ad 1202)) A U H ∧ va_T .int (ad 1202) 10 (fun j => .int (zd_mk.getD j 0)) A U H ∧
  va_Nw (.methodLinkNest "ScheduleCheck$Parser" 171 ⟨"ScheduleCheck", "localCell", "(II)I"⟩ "ScheduleCheck") U
/-- what the reference reads: its String constants (1300 ..) with their bytes (1400 ..), and String's own static -/
def zs_Zb (ad : Nat → Nat) (A : Nat → Prop) (U : State) (H : Heap) : Prop :=
  vk_S 32 zd_sl zd_sb (fun i => ad (1300 + i)) (fun i => ad (1400 + i)) A U H ∧
  va_Z "java/lang/String" "COMPACT_STRINGS" "Z" (.int 1) A U H ∧
  (∀ i, i < 32 → vk_R "ScheduleCheckModel" (zd_sn.getD i (0, "")).1 (zd_sn.getD i (0, "")).2 (ad (1300 + i)) U) ∧
  va_Zq "jdk/internal/util/Preconditions" "SIOOBE_FORMATTER" "Ljava/util/function/BiFunction;" A U H
def zs_Z (w : Nat) (ad : Nat → Nat) (A : Nat → Prop) (U : State) (H : Heap) : Prop := (w = 0 → zs_Za ad A U H) ∧ (w = 1 → zs_Zb ad A U H)
theorem zs_Zmv {w : Nat} {ad : Nat → Nat} {A : Nat → Prop} {u U : State} {H : Heap} (hvm : u.vm.Alike U.vm) (hR : ∀ (own : String) (k : Nat) (tx : String) (a : Nat), vk_R own k tx a u → vk_R own k tx a U) (hM : ∀ (a : String) (i : Nat) (x : MethodName) (h : String), va_Nw (.methodLinkNest a i x h) u → va_Nw (.methodLinkNest a i x h) U) (h : zs_Z w ad A u H) : zs_Z w ad A U H := by
  refine ⟨fun e => ?_, fun e => ?_⟩
  · obtain ⟨h1, h2, h3, h4, h5, h6, h7, h8, h9, h10⟩ := h.1 e
    exact ⟨va_En.moved hvm h1, va_Ef.moved hvm h2, va_En.moved hvm h3, va_Z.moved hvm h4, va_T.moved hvm h5, va_Z.moved hvm h6, va_T.moved hvm h7, va_Z.moved hvm h8, va_T.moved hvm h9, hM _ _ _ _ h10⟩
  · obtain ⟨h1, h2, h3, h4⟩ := h.2 e
    exact ⟨vk_S.moved hvm h1, va_Z.moved hvm h2, fun i hi => hR _ _ _ _ (h3 i hi), va_Zq.moved hvm h4⟩
theorem zs_Zwarm {w : Nat} {ad : Nat → Nat} {A : Nat → Prop} {s U : State} {H : Heap} (hW : s.WarmedH U.vm) (h : zs_Z w ad A s H) : zs_Z w ad A U H := zs_Zmv hW.alike (fun _ _ _ _ q => vk_R.warm hW q) (fun _ _ _ _ q => va_Nw.warmM hW q) h
theorem zs_Zsame {w : Nat} {ad : Nat → Nat} {A : Nat → Prop} {u U : State} {H : Heap} (hv : U.vm = u.vm) (h : zs_Z w ad A u H) : zs_Z w ad A U H := zs_Zmv (by rw [hv]; exact Vm.Alike.refl u.vm) (fun _ _ _ _ q => vk_R.same hv q) (fun _ _ _ _ q => va_tabs rfl hv.symm q) h
theorem zs_Zkept {w : Nat} {ad : Nat → Nat} {A : Nat → Prop} {U : State} {H H1 : Heap} (hq : ∀ a : Nat, a < H.size → ¬ A a → H1[a]? = H[a]?) (h : zs_Z w ad A U H) : zs_Z w ad A U H1 := by
  refine ⟨fun e => ?_, fun e => ?_⟩
  · obtain ⟨h1, h2, h3, h4, h5, h6, h7, h8, h9, h10⟩ := h.1 e
    exact ⟨h1.kept hq, h2.kept hq, h3.kept hq, h4.kept hq, h5.kept hq, h6.kept hq, h7.kept hq, h8.kept hq, h9.kept hq, h10⟩
  · obtain ⟨h1, h2, h3, h4⟩ := h.2 e
    exact ⟨h1.kept hq, h2.kept hq, h3, h4.kept hq⟩
theorem zs_gV {own C : String} {index maxL : Nat} {y : MethodName} {bytes : ByteArray} {ret : Option FieldType} (h1 : Cond.methodLink own index y ∈ zd_ww) (h2 : Cond.instanceMethod y ∈ zd_ww) (h3 : Cond.selects C y y ∈ zd_ww) (h4 : Cond.initialized C ∈ zd_ww) (h5 : Cond.code y bytes maxL ret ∈ zd_ww) : GoodIn zd_ww (wsV own index C y (Cond.code y bytes maxL ret :: zd_ww)) := fun w h => by
  have hm : w ∈ zd_ww := by
    unfold wsV at h
    rcases List.mem_append.mp h with h | h
    · rcases List.mem_cons.mp h with rfl | h
      · exact h1
      rcases List.mem_cons.mp h with rfl | h
      · exact h2
      rcases List.mem_cons.mp h with rfl | h
      · exact h3
      rcases List.mem_cons.mp h with rfl | h
      · exact h4
      exact absurd h List.not_mem_nil
    · rcases List.mem_cons.mp h with rfl | h
      · exact h5
      · exact h
  exact ⟨hm, zd_ok hm⟩
theorem zs_gS {own : String} {index maxL : Nat} {y : MethodName} {bytes : ByteArray} {ret : Option FieldType} (h1 : Cond.methodLink own index y ∈ zd_ww) (h2 : Cond.static y ∈ zd_ww) (h4 : Cond.initialized y.cls ∈ zd_ww) (h5 : Cond.code y bytes maxL ret ∈ zd_ww) : GoodIn zd_ww (va_wsS own index y (Cond.code y bytes maxL ret :: zd_ww)) := fun w h => by
  have hm : w ∈ zd_ww := by
    unfold va_wsS at h
    rcases List.mem_append.mp h with h | h
    · rcases List.mem_cons.mp h with rfl | h
      · exact h1
      rcases List.mem_cons.mp h with rfl | h
      · exact h2
      rcases List.mem_cons.mp h with rfl | h
      · exact h4
      exact absurd h List.not_mem_nil
    · rcases List.mem_cons.mp h with rfl | h
      · exact h5
      · exact h
  exact ⟨hm, zd_ok hm⟩
theorem zs_gC {maxL : Nat} {y : MethodName} {bytes : ByteArray} {ret : Option FieldType} (h5 : Cond.code y bytes maxL ret ∈ zd_ww) : GoodIn zd_ww (Cond.code y bytes maxL ret :: zd_ww) := fun w h => by
  have hm : w ∈ zd_ww := by
    rcases List.mem_cons.mp h with rfl | h
    · exact h5
    · exact h
  exact ⟨hm, zd_ok hm⟩
