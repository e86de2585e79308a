theorem goodIn_r {big : List Cond} (ws : List Cond) (ps : List Nat) (hp : ws = ps.filterMap (fun i => big[i]?)) (h : ws.all goodWord = true) : GoodIn big ws := by
  intro w hw
  have h1 := List.all_eq_true.mp h w hw
  rw [hp] at hw
  obtain ⟨i, -, hi⟩ := List.mem_filterMap.mp hw
  have hm : w ∈ big := by first | exact List.mem_of_getElem? hi | exact List.getElem?_mem hi
  exact ⟨hm, good_of_word h1⟩
theorem goodIn_app {big a b : List Cond} (ha : GoodIn big a) (hb : GoodIn big b) : GoodIn big (a ++ b) := fun w h => (List.mem_append.mp h).elim (ha w) (hb w)
theorem goodIn_ca {big a b : List Cond} {c : Cond} (ha : GoodIn big (c :: a)) (hb : GoodIn big b) : GoodIn big (c :: (a ++ b)) := fun w h => (List.mem_cons.mp h).elim (fun e => ha w (List.mem_cons.mpr (Or.inl e))) (fun h => (List.mem_append.mp h).elim (fun h => ha w (List.mem_cons.mpr (Or.inr h))) (hb w))
theorem goodIn_sub {big ws : List Cond} (hm : ∀ w ∈ ws, w ∈ big) (h : ws.all goodWord = true) : GoodIn big ws := fun w hw => ⟨hm w hw, good_of_word (List.all_eq_true.mp h w hw)⟩
def RX0 : String := "GoalHouse$Acts"
def TX0 : u_T := fun k => match k with
  | _ => ("", "", "", false)
def tyX0 : Nat → FieldType := fun k => match k with
  | _ => .int
abbrev wsX00 : List Cond := u_ws RX0 TX0 0
theorem nmX0 : ∀ a, a < 0 → ∀ b, b < 0 → a ≠ b → (TX0 a).2.1 ≠ (TX0 b).2.1 := by decide +kernel
theorem tyX0_ok : ∀ k, k < 0 → parseFieldDescriptor (TX0 k).2.2.1 = some (tyX0 k) := by decide +kernel
def RX1 : String := "GoalHouse$Call"
def TX1 : u_T := fun k => match k with
  | 0 => ("GoalHouse$Call", "proc", "LGoalHouse$Proc;", true)
  | 1 => ("GoalHouse$Call", "cells", "[LGoalHouse$Val;", true)
  | 2 => ("GoalHouse$Call", "depth", "I", true)
  | _ => ("GoalHouse$Call", "frame", "LGoalHouse$Frame;", true)
def tyX1 : Nat → FieldType := fun k => match k with
  | 0 => .object "GoalHouse$Proc"
  | 1 => .array (.object "GoalHouse$Val")
  | 2 => .int
  | _ => .object "GoalHouse$Frame"
abbrev wsX10 : List Cond := u_ws RX1 TX1 4
theorem nmX1 : ∀ a, a < 4 → ∀ b, b < 4 → a ≠ b → (TX1 a).2.1 ≠ (TX1 b).2.1 := by decide +kernel
theorem tyX1_ok : ∀ k, k < 4 → parseFieldDescriptor (TX1 k).2.2.1 = some (tyX1 k) := by decide +kernel
def RX2 : String := "GoalHouse$Frame"
def TX2 : u_T := fun k => match k with
  | 0 => ("GoalHouse$Frame", "node", "LGoalHouse$Node;", true)
  | 1 => ("GoalHouse$Frame", "up", "LGoalHouse$Frame;", true)
  | 2 => ("GoalHouse$Frame", "prev", "LGoalHouse$Frame;", false)
  | 3 => ("GoalHouse$Frame", "last", "LGoalHouse$Frame;", false)
  | 4 => ("GoalHouse$Frame", "inner", "LGoalHouse$Frame;", false)
  | 5 => ("GoalHouse$Frame", "call", "LGoalHouse$Call;", false)
  | 6 => ("GoalHouse$Frame", "scan", "LGoalHouse$Scan;", false)
  | 7 => ("GoalHouse$Frame", "res", "LGoalHouse$Val;", false)
  | 8 => ("GoalHouse$Frame", "a", "LGoalHouse$Val;", false)
  | 9 => ("GoalHouse$Frame", "b", "LGoalHouse$Val;", false)
  | 10 => ("GoalHouse$Frame", "c", "LGoalHouse$Val;", false)
  | 11 => ("GoalHouse$Frame", "d", "LGoalHouse$Val;", false)
  | 12 => ("GoalHouse$Frame", "state", "I", false)
  | 13 => ("GoalHouse$Frame", "more", "I", false)
  | 14 => ("GoalHouse$Frame", "i", "J", false)
  | 15 => ("GoalHouse$Frame", "j", "J", false)
  | _ => ("GoalHouse$Frame", "n", "I", false)
def tyX2 : Nat → FieldType := fun k => match k with
  | 0 => .object "GoalHouse$Node"
  | 1 => .object "GoalHouse$Frame"
  | 2 => .object "GoalHouse$Frame"
  | 3 => .object "GoalHouse$Frame"
  | 4 => .object "GoalHouse$Frame"
  | 5 => .object "GoalHouse$Call"
  | 6 => .object "GoalHouse$Scan"
  | 7 => .object "GoalHouse$Val"
  | 8 => .object "GoalHouse$Val"
  | 9 => .object "GoalHouse$Val"
  | 10 => .object "GoalHouse$Val"
  | 11 => .object "GoalHouse$Val"
  | 12 => .int
  | 13 => .int
  | 14 => .long
  | 15 => .long
  | _ => .int
abbrev wsX20 : List Cond := u_ws RX2 TX2 17
theorem nmX2 : ∀ a, a < 17 → ∀ b, b < 17 → a ≠ b → (TX2 a).2.1 ≠ (TX2 b).2.1 := by decide +kernel
theorem tyX2_ok : ∀ k, k < 17 → parseFieldDescriptor (TX2 k).2.2.1 = some (tyX2 k) := by decide +kernel
def RX3 : String := "GoalHouse$Kit"
def TX3 : u_T := fun k => match k with
  | 0 => ("GoalHouse$Kit", "nul", "LGoalHouse$Val;", true)
  | 1 => ("GoalHouse$Kit", "empty", "LGoalHouse$Val;", true)
  | 2 => ("GoalHouse$Kit", "singles", "[LGoalHouse$Val;", true)
  | 3 => ("GoalHouse$Kit", "fixed", "[LGoalHouse$Val;", true)
  | 4 => ("GoalHouse$Kit", "library", "[LGoalHouse$Proc;", true)
  | 5 => ("GoalHouse$Kit", "work", "[LGoalHouse$Val;", true)
  | 6 => ("GoalHouse$Kit", "x", "[I", false)
  | 7 => ("GoalHouse$Kit", "y", "[I", false)
  | 8 => ("GoalHouse$Kit", "z", "[I", true)
  | 9 => ("GoalHouse$Kit", "image", "[B", true)
  | 10 => ("GoalHouse$Kit", "imageSize", "I", false)
  | 11 => ("GoalHouse$Kit", "args", "[LGoalHouse$Val;", false)
  | 12 => ("GoalHouse$Kit", "vals", "[LGoalHouse$Val;", false)
  | 13 => ("GoalHouse$Kit", "loose", "[LGoalHouse$Val;", false)
  | 14 => ("GoalHouse$Kit", "argCount", "I", false)
  | 15 => ("GoalHouse$Kit", "bag", "LGoalHouse$Thing;", true)
  | 16 => ("GoalHouse$Kit", "called", "LGoalHouse$Val;", false)
  | 17 => ("GoalHouse$Kit", "cells", "I", false)
  | 18 => ("GoalHouse$Kit", "steps", "I", false)
  | 19 => ("GoalHouse$Kit", "breakNumber", "I", false)
  | _ => ("GoalHouse$Kit", "breakValue", "LGoalHouse$Val;", false)
def tyX3 : Nat → FieldType := fun k => match k with
  | 0 => .object "GoalHouse$Val"
  | 1 => .object "GoalHouse$Val"
  | 2 => .array (.object "GoalHouse$Val")
  | 3 => .array (.object "GoalHouse$Val")
  | 4 => .array (.object "GoalHouse$Proc")
  | 5 => .array (.object "GoalHouse$Val")
  | 6 => .array .int
  | 7 => .array .int
  | 8 => .array .int
  | 9 => .array .byte
  | 10 => .int
  | 11 => .array (.object "GoalHouse$Val")
  | 12 => .array (.object "GoalHouse$Val")
  | 13 => .array (.object "GoalHouse$Val")
  | 14 => .int
  | 15 => .object "GoalHouse$Thing"
  | 16 => .object "GoalHouse$Val"
  | 17 => .int
  | 18 => .int
  | 19 => .int
  | _ => .object "GoalHouse$Val"
abbrev wsX30 : List Cond := u_ws RX3 TX3 21
theorem nmX3 : ∀ a, a < 21 → ∀ b, b < 21 → a ≠ b → (TX3 a).2.1 ≠ (TX3 b).2.1 := by decide +kernel
theorem tyX3_ok : ∀ k, k < 21 → parseFieldDescriptor (TX3 k).2.2.1 = some (tyX3 k) := by decide +kernel
def RX4 : String := "GoalHouse$Node"
def TX4 : u_T := fun k => match k with
  | 0 => ("GoalHouse$Node", "kind", "I", true)
  | 1 => ("GoalHouse$Node", "op", "I", false)
  | 2 => ("GoalHouse$Node", "place", "I", true)
  | 3 => ("GoalHouse$Node", "proc", "I", false)
  | 4 => ("GoalHouse$Node", "id", "I", false)
  | 5 => ("GoalHouse$Node", "kid", "LGoalHouse$Node;", false)
  | 6 => ("GoalHouse$Node", "tail", "LGoalHouse$Node;", false)
  | 7 => ("GoalHouse$Node", "next", "LGoalHouse$Node;", false)
  | 8 => ("GoalHouse$Node", "kids", "I", false)
  | 9 => ("GoalHouse$Node", "name", "Ljava/lang/String;", false)
  | 10 => ("GoalHouse$Node", "lit", "LGoalHouse$Val;", false)
  | 11 => ("GoalHouse$Node", "scope", "I", false)
  | 12 => ("GoalHouse$Node", "slot", "I", false)
  | _ => ("GoalHouse$Node", "loop", "LGoalHouse$Node;", false)
def tyX4 : Nat → FieldType := fun k => match k with
  | 0 => .int
  | 1 => .int
  | 2 => .int
  | 3 => .int
  | 4 => .int
  | 5 => .object "GoalHouse$Node"
  | 6 => .object "GoalHouse$Node"
  | 7 => .object "GoalHouse$Node"
  | 8 => .int
  | 9 => .object "java/lang/String"
  | 10 => .object "GoalHouse$Val"
  | 11 => .int
  | 12 => .int
  | _ => .object "GoalHouse$Node"
abbrev wsX40 : List Cond := u_ws RX4 TX4 14
theorem nmX4 : ∀ a, a < 14 → ∀ b, b < 14 → a ≠ b → (TX4 a).2.1 ≠ (TX4 b).2.1 := by decide +kernel
theorem tyX4_ok : ∀ k, k < 14 → parseFieldDescriptor (TX4 k).2.2.1 = some (tyX4 k) := by decide +kernel
def RX5 : String := "GoalHouse$Proc"
def TX5 : u_T := fun k => match k with
  | 0 => ("GoalHouse$Proc", "name", "Ljava/lang/String;", true)
  | 1 => ("GoalHouse$Proc", "kind", "I", true)
  | 2 => ("GoalHouse$Proc", "index", "I", false)
  | 3 => ("GoalHouse$Proc", "place", "I", false)
  | 4 => ("GoalHouse$Proc", "names", "Ljava/util/ArrayList;", true)
  | 5 => ("GoalHouse$Proc", "statics", "Ljava/util/ArrayList;", true)
  | 6 => ("GoalHouse$Proc", "params", "I", false)
  | 7 => ("GoalHouse$Proc", "told", "I", false)
  | 8 => ("GoalHouse$Proc", "rest", "Z", false)
  | 9 => ("GoalHouse$Proc", "staticBase", "I", false)
  | 10 => ("GoalHouse$Proc", "first", "LGoalHouse$Node;", false)
  | 11 => ("GoalHouse$Proc", "body", "LGoalHouse$Node;", false)
  | 12 => ("GoalHouse$Proc", "val", "LGoalHouse$Val;", false)
  | _ => ("GoalHouse$Proc", "word", "LGoalHouse$Val;", false)
def tyX5 : Nat → FieldType := fun k => match k with
  | 0 => .object "java/lang/String"
  | 1 => .int
  | 2 => .int
  | 3 => .int
  | 4 => .object "java/util/ArrayList"
  | 5 => .object "java/util/ArrayList"
  | 6 => .int
  | 7 => .int
  | 8 => .boolean
  | 9 => .int
  | 10 => .object "GoalHouse$Node"
  | 11 => .object "GoalHouse$Node"
  | 12 => .object "GoalHouse$Val"
  | _ => .object "GoalHouse$Val"
abbrev wsX50 : List Cond := u_ws RX5 TX5 14
theorem nmX5 : ∀ a, a < 14 → ∀ b, b < 14 → a ≠ b → (TX5 a).2.1 ≠ (TX5 b).2.1 := by decide +kernel
theorem tyX5_ok : ∀ k, k < 14 → parseFieldDescriptor (TX5 k).2.2.1 = some (tyX5 k) := by decide +kernel
def RX6 : String := "GoalHouse$Program"
def TX6 : u_T := fun k => match k with
  | 0 => ("GoalHouse$Program", "nodes", "Ljava/util/ArrayList;", true)
  | 1 => ("GoalHouse$Program", "procs", "Ljava/util/ArrayList;", true)
  | 2 => ("GoalHouse$Program", "records", "Ljava/util/ArrayList;", true)
  | 3 => ("GoalHouse$Program", "globals", "Ljava/util/ArrayList;", true)
  | 4 => ("GoalHouse$Program", "items", "Ljava/util/ArrayList;", true)
  | 5 => ("GoalHouse$Program", "written", "Ljava/lang/StringBuilder;", true)
  | 6 => ("GoalHouse$Program", "staticCount", "I", false)
  | 7 => ("GoalHouse$Program", "glue", "Z", false)
  | 8 => ("GoalHouse$Program", "todo", "[LGoalHouse$Node;", false)
  | 9 => ("GoalHouse$Program", "ways", "[I", false)
  | _ => ("GoalHouse$Program", "open", "I", false)
def tyX6 : Nat → FieldType := fun k => match k with
  | 0 => .object "java/util/ArrayList"
  | 1 => .object "java/util/ArrayList"
  | 2 => .object "java/util/ArrayList"
  | 3 => .object "java/util/ArrayList"
  | 4 => .object "java/util/ArrayList"
  | 5 => .object "java/lang/StringBuilder"
  | 6 => .int
  | 7 => .boolean
  | 8 => .array (.object "GoalHouse$Node")
  | 9 => .array .int
  | _ => .int
abbrev wsX60 : List Cond := u_ws RX6 TX6 11
theorem nmX6 : ∀ a, a < 11 → ∀ b, b < 11 → a ≠ b → (TX6 a).2.1 ≠ (TX6 b).2.1 := by decide +kernel
theorem tyX6_ok : ∀ k, k < 11 → parseFieldDescriptor (TX6 k).2.2.1 = some (tyX6 k) := by decide +kernel
def RX7 : String := "GoalHouse$Reader"
def TX7 : u_T := fun k => match k with
  | 0 => ("GoalHouse$Reader", "kit", "LGoalHouse$Kit;", false)
  | 1 => ("GoalHouse$Reader", "text", "[B", false)
  | 2 => ("GoalHouse$Reader", "size", "I", false)
  | 3 => ("GoalHouse$Reader", "at", "I", false)
  | 4 => ("GoalHouse$Reader", "kind", "I", false)
  | 5 => ("GoalHouse$Reader", "id", "I", false)
  | 6 => ("GoalHouse$Reader", "place", "I", false)
  | 7 => ("GoalHouse$Reader", "semi", "Z", false)
  | 8 => ("GoalHouse$Reader", "name", "Ljava/lang/String;", false)
  | 9 => ("GoalHouse$Reader", "lit", "LGoalHouse$Val;", false)
  | 10 => ("GoalHouse$Reader", "fault", "I", false)
  | 11 => ("GoalHouse$Reader", "faultAt", "I", false)
  | 12 => ("GoalHouse$Reader", "program", "LGoalHouse$Program;", false)
  | 13 => ("GoalHouse$Reader", "proc", "LGoalHouse$Proc;", false)
  | 14 => ("GoalHouse$Reader", "state", "I", false)
  | 15 => ("GoalHouse$Reader", "types", "[I", true)
  | 16 => ("GoalHouse$Reader", "nodes", "[LGoalHouse$Node;", true)
  | 17 => ("GoalHouse$Reader", "loops", "[LGoalHouse$Node;", true)
  | 18 => ("GoalHouse$Reader", "top", "I", false)
  | 19 => ("GoalHouse$Reader", "open", "I", false)
  | 20 => ("GoalHouse$Reader", "left", "LGoalHouse$Node;", false)
  | 21 => ("GoalHouse$Reader", "loop", "LGoalHouse$Node;", false)
  | _ => ("GoalHouse$Reader", "barred", "I", false)
def tyX7 : Nat → FieldType := fun k => match k with
  | 0 => .object "GoalHouse$Kit"
  | 1 => .array .byte
  | 2 => .int
  | 3 => .int
  | 4 => .int
  | 5 => .int
  | 6 => .int
  | 7 => .boolean
  | 8 => .object "java/lang/String"
  | 9 => .object "GoalHouse$Val"
  | 10 => .int
  | 11 => .int
  | 12 => .object "GoalHouse$Program"
  | 13 => .object "GoalHouse$Proc"
  | 14 => .int
  | 15 => .array .int
  | 16 => .array (.object "GoalHouse$Node")
  | 17 => .array (.object "GoalHouse$Node")
  | 18 => .int
  | 19 => .int
  | 20 => .object "GoalHouse$Node"
  | 21 => .object "GoalHouse$Node"
  | _ => .int
abbrev wsX70 : List Cond := u_ws RX7 TX7 23
theorem nmX7 : ∀ a, a < 23 → ∀ b, b < 23 → a ≠ b → (TX7 a).2.1 ≠ (TX7 b).2.1 := by decide +kernel
theorem tyX7_ok : ∀ k, k < 23 → parseFieldDescriptor (TX7 k).2.2.1 = some (tyX7 k) := by decide +kernel
def RX8 : String := "GoalHouse$Run"
def TX8 : u_T := fun k => match k with
  | 0 => ("GoalHouse$Run", "kit", "LGoalHouse$Kit;", true)
  | 1 => ("GoalHouse$Run", "program", "LGoalHouse$Program;", false)
  | 2 => ("GoalHouse$Run", "told", "[I", true)
  | 3 => ("GoalHouse$Run", "seed", "I", false)
  | 4 => ("GoalHouse$Run", "input", "[B", false)
  | 5 => ("GoalHouse$Run", "out", "[B", true)
  | 6 => ("GoalHouse$Run", "events", "[I", true)
  | 7 => ("GoalHouse$Run", "counts", "[I", true)
  | 8 => ("GoalHouse$Run", "globals", "[LGoalHouse$Val;", false)
  | 9 => ("GoalHouse$Run", "statics", "[LGoalHouse$Val;", false)
  | 10 => ("GoalHouse$Run", "initiated", "[Z", false)
  | 11 => ("GoalHouse$Run", "things", "Ljava/util/ArrayList;", true)
  | 12 => ("GoalHouse$Run", "made", "[B", false)
  | 13 => ("GoalHouse$Run", "base", "LGoalHouse$Scan;", false)
  | 14 => ("GoalHouse$Run", "errorNumber", "LGoalHouse$Val;", false)
  | 15 => ("GoalHouse$Run", "errorValue", "LGoalHouse$Val;", false)
  | 16 => ("GoalHouse$Run", "mode", "I", false)
  | 17 => ("GoalHouse$Run", "cur", "LGoalHouse$Frame;", false)
  | 18 => ("GoalHouse$Run", "active", "LGoalHouse$Thing;", false)
  | 19 => ("GoalHouse$Run", "goalFrame", "LGoalHouse$Frame;", false)
  | _ => ("GoalHouse$Run", "result", "LGoalHouse$Val;", false)
def tyX8 : Nat → FieldType := fun k => match k with
  | 0 => .object "GoalHouse$Kit"
  | 1 => .object "GoalHouse$Program"
  | 2 => .array .int
  | 3 => .int
  | 4 => .array .byte
  | 5 => .array .byte
  | 6 => .array .int
  | 7 => .array .int
  | 8 => .array (.object "GoalHouse$Val")
  | 9 => .array (.object "GoalHouse$Val")
  | 10 => .array .boolean
  | 11 => .object "java/util/ArrayList"
  | 12 => .array .byte
  | 13 => .object "GoalHouse$Scan"
  | 14 => .object "GoalHouse$Val"
  | 15 => .object "GoalHouse$Val"
  | 16 => .int
  | 17 => .object "GoalHouse$Frame"
  | 18 => .object "GoalHouse$Thing"
  | 19 => .object "GoalHouse$Frame"
  | _ => .object "GoalHouse$Val"
abbrev wsX80 : List Cond := u_ws RX8 TX8 21
theorem nmX8 : ∀ a, a < 21 → ∀ b, b < 21 → a ≠ b → (TX8 a).2.1 ≠ (TX8 b).2.1 := by decide +kernel
theorem tyX8_ok : ∀ k, k < 21 → parseFieldDescriptor (TX8 k).2.2.1 = some (tyX8 k) := by decide +kernel
def RX9 : String := "GoalHouse$Scan"
def TX9 : u_T := fun k => match k with
  | 0 => ("GoalHouse$Scan", "subject", "LGoalHouse$Val;", false)
  | 1 => ("GoalHouse$Scan", "pos", "I", false)
  | 2 => ("GoalHouse$Scan", "subjectCell", "LGoalHouse$Val;", false)
  | _ => ("GoalHouse$Scan", "posCell", "LGoalHouse$Val;", false)
def tyX9 : Nat → FieldType := fun k => match k with
  | 0 => .object "GoalHouse$Val"
  | 1 => .int
  | 2 => .object "GoalHouse$Val"
  | _ => .object "GoalHouse$Val"
abbrev wsX90 : List Cond := u_ws RX9 TX9 4
theorem nmX9 : ∀ a, a < 4 → ∀ b, b < 4 → a ≠ b → (TX9 a).2.1 ≠ (TX9 b).2.1 := by decide +kernel
theorem tyX9_ok : ∀ k, k < 4 → parseFieldDescriptor (TX9 k).2.2.1 = some (tyX9 k) := by decide +kernel
def RX10 : String := "GoalHouse$Thing"
def TX10 : u_T := fun k => match k with
  | 0 => ("GoalHouse$Thing", "kind", "I", true)
  | 1 => ("GoalHouse$Thing", "self", "LGoalHouse$Val;", true)
  | 2 => ("GoalHouse$Thing", "number", "I", false)
  | 3 => ("GoalHouse$Thing", "items", "[LGoalHouse$Val;", false)
  | 4 => ("GoalHouse$Thing", "keys", "[LGoalHouse$Val;", false)
  | 5 => ("GoalHouse$Thing", "head", "I", false)
  | 6 => ("GoalHouse$Thing", "size", "I", false)
  | 7 => ("GoalHouse$Thing", "used", "I", false)
  | 8 => ("GoalHouse$Thing", "heads", "[I", false)
  | 9 => ("GoalHouse$Thing", "links", "[I", false)
  | 10 => ("GoalHouse$Thing", "other", "LGoalHouse$Val;", false)
  | 11 => ("GoalHouse$Thing", "maker", "LGoalHouse$Proc;", false)
  | 12 => ("GoalHouse$Thing", "call", "LGoalHouse$Call;", false)
  | 13 => ("GoalHouse$Thing", "frame", "LGoalHouse$Frame;", false)
  | 14 => ("GoalHouse$Thing", "waiter", "LGoalHouse$Frame;", false)
  | 15 => ("GoalHouse$Thing", "prior", "LGoalHouse$Thing;", false)
  | 16 => ("GoalHouse$Thing", "state", "I", false)
  | 17 => ("GoalHouse$Thing", "goal", "I", false)
  | _ => ("GoalHouse$Thing", "level", "I", false)
def tyX10 : Nat → FieldType := fun k => match k with
  | 0 => .int
  | 1 => .object "GoalHouse$Val"
  | 2 => .int
  | 3 => .array (.object "GoalHouse$Val")
  | 4 => .array (.object "GoalHouse$Val")
  | 5 => .int
  | 6 => .int
  | 7 => .int
  | 8 => .array .int
  | 9 => .array .int
  | 10 => .object "GoalHouse$Val"
  | 11 => .object "GoalHouse$Proc"
  | 12 => .object "GoalHouse$Call"
  | 13 => .object "GoalHouse$Frame"
  | 14 => .object "GoalHouse$Frame"
  | 15 => .object "GoalHouse$Thing"
  | 16 => .int
  | 17 => .int
  | _ => .int
abbrev wsX100 : List Cond := u_ws RX10 TX10 19
theorem nmX10 : ∀ a, a < 19 → ∀ b, b < 19 → a ≠ b → (TX10 a).2.1 ≠ (TX10 b).2.1 := by decide +kernel
theorem tyX10_ok : ∀ k, k < 19 → parseFieldDescriptor (TX10 k).2.2.1 = some (tyX10 k) := by decide +kernel
def RX11 : String := "GoalHouse$Val"
def TX11 : u_T := fun k => match k with
  | 0 => ("GoalHouse$Val", "kind", "I", true)
  | 1 => ("GoalHouse$Val", "num", "J", false)
  | 2 => ("GoalHouse$Val", "big", "[I", false)
  | 3 => ("GoalHouse$Val", "bytes", "[B", false)
  | 4 => ("GoalHouse$Val", "off", "I", false)
  | 5 => ("GoalHouse$Val", "len", "I", false)
  | 6 => ("GoalHouse$Val", "bits", "[J", false)
  | 7 => ("GoalHouse$Val", "thing", "LGoalHouse$Thing;", false)
  | 8 => ("GoalHouse$Val", "in", "LGoalHouse$Val;", false)
  | 9 => ("GoalHouse$Val", "scan", "LGoalHouse$Scan;", false)
  | _ => ("GoalHouse$Val", "proc", "LGoalHouse$Proc;", false)
def tyX11 : Nat → FieldType := fun k => match k with
  | 0 => .int
  | 1 => .long
  | 2 => .array .int
  | 3 => .array .byte
  | 4 => .int
  | 5 => .int
  | 6 => .array .long
  | 7 => .object "GoalHouse$Thing"
  | 8 => .object "GoalHouse$Val"
  | 9 => .object "GoalHouse$Scan"
  | _ => .object "GoalHouse$Proc"
abbrev wsX110 : List Cond := u_ws RX11 TX11 11
theorem nmX11 : ∀ a, a < 11 → ∀ b, b < 11 → a ≠ b → (TX11 a).2.1 ≠ (TX11 b).2.1 := by decide +kernel
theorem tyX11_ok : ∀ k, k < 11 → parseFieldDescriptor (TX11 k).2.2.1 = some (tyX11 k) := by decide +kernel
def RX12 : String := "GoalHouse"
def TX12 : u_T := fun k => match k with
  | 0 => ("GoalHouse", "tape", "[B", true)
  | 1 => ("GoalHouse", "size", "I", false)
  | 2 => ("GoalHouse", "programs", "[LGoalHouse$Program;", true)
  | 3 => ("GoalHouse", "runs", "[LGoalHouse$Run;", true)
  | 4 => ("GoalHouse", "rooms", "[LGoalHouse$Run;", true)
  | 5 => ("GoalHouse", "kit", "LGoalHouse$Kit;", true)
  | 6 => ("GoalHouse", "reader", "LGoalHouse$Reader;", true)
  | 7 => ("GoalHouse", "fault", "I", false)
  | 8 => ("GoalHouse", "faultPlace", "I", false)
  | 9 => ("GoalHouse", "shown", "[B", false)
  | _ => ("GoalHouse", "shownSize", "I", false)
def tyX12 : Nat → FieldType := fun k => match k with
  | 0 => .array .byte
  | 1 => .int
  | 2 => .array (.object "GoalHouse$Program")
  | 3 => .array (.object "GoalHouse$Run")
  | 4 => .array (.object "GoalHouse$Run")
  | 5 => .object "GoalHouse$Kit"
  | 6 => .object "GoalHouse$Reader"
  | 7 => .int
  | 8 => .int
  | 9 => .array .byte
  | _ => .int
abbrev wsX120 : List Cond := u_ws RX12 TX12 11
theorem nmX12 : ∀ a, a < 11 → ∀ b, b < 11 → a ≠ b → (TX12 a).2.1 ≠ (TX12 b).2.1 := by decide +kernel
theorem tyX12_ok : ∀ k, k < 11 → parseFieldDescriptor (TX12 k).2.2.1 = some (tyX12 k) := by decide +kernel
abbrev cX12_wordIn : ByteArray := prog_1_method_29_code
def yX12_wordIn : MethodName := ⟨RX12, "wordIn", "(Ljava/lang/String;[BII)I"⟩
abbrev cX12_sameBytes : ByteArray := prog_1_method_30_code
def yX12_sameBytes : MethodName := ⟨RX12, "sameBytes", "(Ljava/lang/String;I[BII)Z"⟩
def RX13 : String := "GoalHouseModel"
def TX13 : u_T := fun k => match k with
  | _ => ("", "", "", false)
def tyX13 : Nat → FieldType := fun k => match k with
  | _ => .int
abbrev wsX130 : List Cond := u_ws RX13 TX13 0
theorem nmX13 : ∀ a, a < 0 → ∀ b, b < 0 → a ≠ b → (TX13 a).2.1 ≠ (TX13 b).2.1 := by decide +kernel
theorem tyX13_ok : ∀ k, k < 0 → parseFieldDescriptor (TX13 k).2.2.1 = some (tyX13 k) := by decide +kernel
def RJx145de : String := "java/io/Serializable"
def TJx145de : u_T := fun k => match k with
  | _ => ("", "", "", false)
def tyJx145de : Nat → FieldType := fun k => match k with
  | _ => .int
theorem nmJx145de : ∀ a, a < 0 → ∀ b, b < 0 → a ≠ b → (TJx145de a).2.1 ≠ (TJx145de b).2.1 := by decide +kernel
theorem tyJx145de_ok : ∀ k, k < 0 → parseFieldDescriptor (TJx145de k).2.2.1 = some (tyJx145de k) := by decide +kernel
def RJ5 : String := "java/lang/AbstractStringBuilder"
def TJ5 : u_T := fun k => match k with
  | _ => ("", "", "", false)
def tyJ5 : Nat → FieldType := fun k => match k with
  | _ => .int
theorem nmJ5 : ∀ a, a < 0 → ∀ b, b < 0 → a ≠ b → (TJ5 a).2.1 ≠ (TJ5 b).2.1 := by decide +kernel
theorem tyJ5_ok : ∀ k, k < 0 → parseFieldDescriptor (TJ5 k).2.2.1 = some (tyJ5 k) := by decide +kernel
def RJx2cfe8 : String := "java/lang/Appendable"
def TJx2cfe8 : u_T := fun k => match k with
  | _ => ("", "", "", false)
def tyJx2cfe8 : Nat → FieldType := fun k => match k with
  | _ => .int
theorem nmJx2cfe8 : ∀ a, a < 0 → ∀ b, b < 0 → a ≠ b → (TJx2cfe8 a).2.1 ≠ (TJx2cfe8 b).2.1 := by decide +kernel
theorem tyJx2cfe8_ok : ∀ k, k < 0 → parseFieldDescriptor (TJx2cfe8 k).2.2.1 = some (tyJx2cfe8 k) := by decide +kernel
def RJx9f9b0 : String := "java/lang/CharSequence"
def TJx9f9b0 : u_T := fun k => match k with
  | _ => ("", "", "", false)
def tyJx9f9b0 : Nat → FieldType := fun k => match k with
  | _ => .int
theorem nmJx9f9b0 : ∀ a, a < 0 → ∀ b, b < 0 → a ≠ b → (TJx9f9b0 a).2.1 ≠ (TJx9f9b0 b).2.1 := by decide +kernel
theorem tyJx9f9b0_ok : ∀ k, k < 0 → parseFieldDescriptor (TJx9f9b0 k).2.2.1 = some (tyJx9f9b0 k) := by decide +kernel
def RJx8e188 : String := "java/lang/Cloneable"
def TJx8e188 : u_T := fun k => match k with
  | _ => ("", "", "", false)
def tyJx8e188 : Nat → FieldType := fun k => match k with
  | _ => .int
theorem nmJx8e188 : ∀ a, a < 0 → ∀ b, b < 0 → a ≠ b → (TJx8e188 a).2.1 ≠ (TJx8e188 b).2.1 := by decide +kernel
theorem tyJx8e188_ok : ∀ k, k < 0 → parseFieldDescriptor (TJx8e188 k).2.2.1 = some (tyJx8e188 k) := by decide +kernel
def RJxb160c : String := "java/lang/Comparable"
def TJxb160c : u_T := fun k => match k with
  | _ => ("", "", "", false)
def tyJxb160c : Nat → FieldType := fun k => match k with
  | _ => .int
theorem nmJxb160c : ∀ a, a < 0 → ∀ b, b < 0 → a ≠ b → (TJxb160c a).2.1 ≠ (TJxb160c b).2.1 := by decide +kernel
theorem tyJxb160c_ok : ∀ k, k < 0 → parseFieldDescriptor (TJxb160c k).2.2.1 = some (tyJxb160c k) := by decide +kernel
def RJ6 : String := "java/lang/Integer"
def TJ6 : u_T := fun k => match k with
  | _ => ("", "", "", false)
def tyJ6 : Nat → FieldType := fun k => match k with
  | _ => .int
theorem nmJ6 : ∀ a, a < 0 → ∀ b, b < 0 → a ≠ b → (TJ6 a).2.1 ≠ (TJ6 b).2.1 := by decide +kernel
theorem tyJ6_ok : ∀ k, k < 0 → parseFieldDescriptor (TJ6 k).2.2.1 = some (tyJ6 k) := by decide +kernel
def RJxab1ab : String := "java/lang/Iterable"
def TJxab1ab : u_T := fun k => match k with
  | _ => ("", "", "", false)
def tyJxab1ab : Nat → FieldType := fun k => match k with
  | _ => .int
theorem nmJxab1ab : ∀ a, a < 0 → ∀ b, b < 0 → a ≠ b → (TJxab1ab a).2.1 ≠ (TJxab1ab b).2.1 := by decide +kernel
theorem tyJxab1ab_ok : ∀ k, k < 0 → parseFieldDescriptor (TJxab1ab k).2.2.1 = some (tyJxab1ab k) := by decide +kernel
def RJ13 : String := "java/lang/Long"
def TJ13 : u_T := fun k => match k with
  | _ => ("", "", "", false)
def tyJ13 : Nat → FieldType := fun k => match k with
  | _ => .int
theorem nmJ13 : ∀ a, a < 0 → ∀ b, b < 0 → a ≠ b → (TJ13 a).2.1 ≠ (TJ13 b).2.1 := by decide +kernel
theorem tyJ13_ok : ∀ k, k < 0 → parseFieldDescriptor (TJ13 k).2.2.1 = some (tyJ13 k) := by decide +kernel
def RJ9 : String := "java/lang/Math"
def TJ9 : u_T := fun k => match k with
  | _ => ("", "", "", false)
def tyJ9 : Nat → FieldType := fun k => match k with
  | _ => .int
theorem nmJ9 : ∀ a, a < 0 → ∀ b, b < 0 → a ≠ b → (TJ9 a).2.1 ≠ (TJ9 b).2.1 := by decide +kernel
theorem tyJ9_ok : ∀ k, k < 0 → parseFieldDescriptor (TJ9 k).2.2.1 = some (tyJ9 k) := by decide +kernel
def RJ0 : String := "java/lang/String"
def TJ0 : u_T := fun k => match k with
  | 0 => ("java/lang/String", "value", "[B", true)
  | 1 => ("java/lang/String", "coder", "B", true)
  | 2 => ("java/lang/String", "hash", "I", false)
  | _ => ("java/lang/String", "hashIsZero", "Z", false)
def tyJ0 : Nat → FieldType := fun k => match k with
  | 0 => .array .byte
  | 1 => .byte
  | 2 => .int
  | _ => .boolean
abbrev wsJ00 : List Cond := u_ws RJ0 TJ0 4
theorem nmJ0 : ∀ a, a < 4 → ∀ b, b < 4 → a ≠ b → (TJ0 a).2.1 ≠ (TJ0 b).2.1 := by decide +kernel
theorem tyJ0_ok : ∀ k, k < 4 → parseFieldDescriptor (TJ0 k).2.2.1 = some (tyJ0 k) := by decide +kernel
abbrev cJ0_length_8abf5 : ByteArray := prog_26_method_54_code
def yJ0_length_8abf5 : MethodName := ⟨RJ0, "length", "()I"⟩
abbrev cJ0_charAt_5068e : ByteArray := prog_26_method_56_code
def yJ0_charAt_5068e : MethodName := ⟨RJ0, "charAt", "(I)C"⟩
abbrev cJ0_coder_7d493 : ByteArray := prog_26_method_152_code
def yJ0_coder_7d493 : MethodName := ⟨RJ0, "coder", "()B"⟩
abbrev cJ0_isLatin1_aae02 : ByteArray := prog_26_method_154_code
def yJ0_isLatin1_aae02 : MethodName := ⟨RJ0, "isLatin1", "()Z"⟩
abbrev cJ0_checkIndex_df160 : ByteArray := prog_26_method_155_code
def yJ0_checkIndex_df160 : MethodName := ⟨RJ0, "checkIndex", "(II)V"⟩
def RJ4 : String := "java/lang/StringBuilder"
def TJ4 : u_T := fun k => match k with
  | 0 => ("java/lang/AbstractStringBuilder", "value", "[B", false)
  | 1 => ("java/lang/AbstractStringBuilder", "coder", "B", false)
  | 2 => ("java/lang/AbstractStringBuilder", "maybeLatin1", "Z", false)
  | _ => ("java/lang/AbstractStringBuilder", "count", "I", false)
def tyJ4 : Nat → FieldType := fun k => match k with
  | 0 => .array .byte
  | 1 => .byte
  | 2 => .boolean
  | _ => .int
theorem nmJ4 : ∀ a, a < 4 → ∀ b, b < 4 → a ≠ b → (TJ4 a).2.1 ≠ (TJ4 b).2.1 := by decide +kernel
theorem tyJ4_ok : ∀ k, k < 4 → parseFieldDescriptor (TJ4 k).2.2.1 = some (tyJ4 k) := by decide +kernel
def RJ1 : String := "java/lang/StringLatin1"
def TJ1 : u_T := fun k => match k with
  | _ => ("", "", "", false)
def tyJ1 : Nat → FieldType := fun k => match k with
  | _ => .int
theorem nmJ1 : ∀ a, a < 0 → ∀ b, b < 0 → a ≠ b → (TJ1 a).2.1 ≠ (TJ1 b).2.1 := by decide +kernel
theorem tyJ1_ok : ∀ k, k < 0 → parseFieldDescriptor (TJ1 k).2.2.1 = some (tyJ1 k) := by decide +kernel
abbrev cJ1_charAt_3b067 : ByteArray := prog_28_method_2_code
def yJ1_charAt_3b067 : MethodName := ⟨RJ1, "charAt", "([BI)C"⟩
def RJ2 : String := "java/lang/StringUTF16"
def TJ2 : u_T := fun k => match k with
  | _ => ("", "", "", false)
def tyJ2 : Nat → FieldType := fun k => match k with
  | _ => .int
theorem nmJ2 : ∀ a, a < 0 → ∀ b, b < 0 → a ≠ b → (TJ2 a).2.1 ≠ (TJ2 b).2.1 := by decide +kernel
theorem tyJ2_ok : ∀ k, k < 0 → parseFieldDescriptor (TJ2 k).2.2.1 = some (tyJ2 k) := by decide +kernel
abbrev cJ2_getChar_3b067 : ByteArray := prog_29_method_5_code
def yJ2_getChar_3b067 : MethodName := ⟨RJ2, "getChar", "([BI)C"⟩
abbrev cJ2_length_9d52b : ByteArray := prog_29_method_6_code
def yJ2_length_9d52b : MethodName := ⟨RJ2, "length", "([B)I"⟩
abbrev cJ2_charAt_3b067 : ByteArray := prog_29_method_83_code
def yJ2_charAt_3b067 : MethodName := ⟨RJ2, "charAt", "([BI)C"⟩
abbrev cJ2_checkIndex_2214a : ByteArray := prog_29_method_91_code
def yJ2_checkIndex_2214a : MethodName := ⟨RJ2, "checkIndex", "(I[B)V"⟩
def RJ10 : String := "java/lang/System"
def TJ10 : u_T := fun k => match k with
  | _ => ("", "", "", false)
def tyJ10 : Nat → FieldType := fun k => match k with
  | _ => .int
theorem nmJ10 : ∀ a, a < 0 → ∀ b, b < 0 → a ≠ b → (TJ10 a).2.1 ≠ (TJ10 b).2.1 := by decide +kernel
theorem tyJ10_ok : ∀ k, k < 0 → parseFieldDescriptor (TJ10 k).2.2.1 = some (tyJ10 k) := by decide +kernel
def RJxfd54e : String := "java/lang/constant/Constable"
def TJxfd54e : u_T := fun k => match k with
  | _ => ("", "", "", false)
def tyJxfd54e : Nat → FieldType := fun k => match k with
  | _ => .int
theorem nmJxfd54e : ∀ a, a < 0 → ∀ b, b < 0 → a ≠ b → (TJxfd54e a).2.1 ≠ (TJxfd54e b).2.1 := by decide +kernel
theorem tyJxfd54e_ok : ∀ k, k < 0 → parseFieldDescriptor (TJxfd54e k).2.2.1 = some (tyJxfd54e k) := by decide +kernel
def RJx3cf43 : String := "java/lang/constant/ConstantDesc"
def TJx3cf43 : u_T := fun k => match k with
  | _ => ("", "", "", false)
def tyJx3cf43 : Nat → FieldType := fun k => match k with
  | _ => .int
theorem nmJx3cf43 : ∀ a, a < 0 → ∀ b, b < 0 → a ≠ b → (TJx3cf43 a).2.1 ≠ (TJx3cf43 b).2.1 := by decide +kernel
theorem tyJx3cf43_ok : ∀ k, k < 0 → parseFieldDescriptor (TJx3cf43 k).2.2.1 = some (tyJx3cf43 k) := by decide +kernel
def RJxa1e45 : String := "java/util/AbstractCollection"
def TJxa1e45 : u_T := fun k => match k with
  | _ => ("", "", "", false)
def tyJxa1e45 : Nat → FieldType := fun k => match k with
  | _ => .int
theorem nmJxa1e45 : ∀ a, a < 0 → ∀ b, b < 0 → a ≠ b → (TJxa1e45 a).2.1 ≠ (TJxa1e45 b).2.1 := by decide +kernel
theorem tyJxa1e45_ok : ∀ k, k < 0 → parseFieldDescriptor (TJxa1e45 k).2.2.1 = some (tyJxa1e45 k) := by decide +kernel
def RJxc12de : String := "java/util/AbstractList"
def TJxc12de : u_T := fun k => match k with
  | _ => ("", "", "", false)
def tyJxc12de : Nat → FieldType := fun k => match k with
  | _ => .int
theorem nmJxc12de : ∀ a, a < 0 → ∀ b, b < 0 → a ≠ b → (TJxc12de a).2.1 ≠ (TJxc12de b).2.1 := by decide +kernel
theorem tyJxc12de_ok : ∀ k, k < 0 → parseFieldDescriptor (TJxc12de k).2.2.1 = some (tyJxc12de k) := by decide +kernel
def RJx4a65c : String := "java/util/ArrayList"
def TJx4a65c : u_T := fun k => match k with
  | 0 => ("java/util/AbstractList", "modCount", "I", false)
  | 1 => ("java/util/ArrayList", "elementData", "[Ljava/lang/Object;", false)
  | _ => ("java/util/ArrayList", "size", "I", false)
def tyJx4a65c : Nat → FieldType := fun k => match k with
  | 0 => .int
  | 1 => .array (.object "java/lang/Object")
  | _ => .int
theorem nmJx4a65c : ∀ a, a < 3 → ∀ b, b < 3 → a ≠ b → (TJx4a65c a).2.1 ≠ (TJx4a65c b).2.1 := by decide +kernel
theorem tyJx4a65c_ok : ∀ k, k < 3 → parseFieldDescriptor (TJx4a65c k).2.2.1 = some (tyJx4a65c k) := by decide +kernel
def RJ7 : String := "java/util/Arrays"
def TJ7 : u_T := fun k => match k with
  | _ => ("", "", "", false)
def tyJ7 : Nat → FieldType := fun k => match k with
  | _ => .int
theorem nmJ7 : ∀ a, a < 0 → ∀ b, b < 0 → a ≠ b → (TJ7 a).2.1 ≠ (TJ7 b).2.1 := by decide +kernel
theorem tyJ7_ok : ∀ k, k < 0 → parseFieldDescriptor (TJ7 k).2.2.1 = some (tyJ7 k) := by decide +kernel
def RJx5ef63 : String := "java/util/Collection"
def TJx5ef63 : u_T := fun k => match k with
  | _ => ("", "", "", false)
def tyJx5ef63 : Nat → FieldType := fun k => match k with
  | _ => .int
theorem nmJx5ef63 : ∀ a, a < 0 → ∀ b, b < 0 → a ≠ b → (TJx5ef63 a).2.1 ≠ (TJx5ef63 b).2.1 := by decide +kernel
theorem tyJx5ef63_ok : ∀ k, k < 0 → parseFieldDescriptor (TJx5ef63 k).2.2.1 = some (tyJx5ef63 k) := by decide +kernel
def RJxbd725 : String := "java/util/List"
def TJxbd725 : u_T := fun k => match k with
  | _ => ("", "", "", false)
def tyJxbd725 : Nat → FieldType := fun k => match k with
  | _ => .int
theorem nmJxbd725 : ∀ a, a < 0 → ∀ b, b < 0 → a ≠ b → (TJxbd725 a).2.1 ≠ (TJxbd725 b).2.1 := by decide +kernel
theorem tyJxbd725_ok : ∀ k, k < 0 → parseFieldDescriptor (TJxbd725 k).2.2.1 = some (tyJxbd725 k) := by decide +kernel
def RJ15 : String := "java/util/Objects"
def TJ15 : u_T := fun k => match k with
  | _ => ("", "", "", false)
def tyJ15 : Nat → FieldType := fun k => match k with
  | _ => .int
theorem nmJ15 : ∀ a, a < 0 → ∀ b, b < 0 → a ≠ b → (TJ15 a).2.1 ≠ (TJ15 b).2.1 := by decide +kernel
theorem tyJ15_ok : ∀ k, k < 0 → parseFieldDescriptor (TJ15 k).2.2.1 = some (tyJ15 k) := by decide +kernel
def RJxf0a74 : String := "java/util/RandomAccess"
def TJxf0a74 : u_T := fun k => match k with
  | _ => ("", "", "", false)
def tyJxf0a74 : Nat → FieldType := fun k => match k with
  | _ => .int
theorem nmJxf0a74 : ∀ a, a < 0 → ∀ b, b < 0 → a ≠ b → (TJxf0a74 a).2.1 ≠ (TJxf0a74 b).2.1 := by decide +kernel
theorem tyJxf0a74_ok : ∀ k, k < 0 → parseFieldDescriptor (TJxf0a74 k).2.2.1 = some (tyJxf0a74 k) := by decide +kernel
def RJxa66e6 : String := "java/util/SequencedCollection"
def TJxa66e6 : u_T := fun k => match k with
  | _ => ("", "", "", false)
def tyJxa66e6 : Nat → FieldType := fun k => match k with
  | _ => .int
theorem nmJxa66e6 : ∀ a, a < 0 → ∀ b, b < 0 → a ≠ b → (TJxa66e6 a).2.1 ≠ (TJxa66e6 b).2.1 := by decide +kernel
theorem tyJxa66e6_ok : ∀ k, k < 0 → parseFieldDescriptor (TJxa66e6 k).2.2.1 = some (tyJxa66e6 k) := by decide +kernel
def RJ8 : String := "jdk/internal/util/ArraysSupport"
def TJ8 : u_T := fun k => match k with
  | _ => ("", "", "", false)
def tyJ8 : Nat → FieldType := fun k => match k with
  | _ => .int
theorem nmJ8 : ∀ a, a < 0 → ∀ b, b < 0 → a ≠ b → (TJ8 a).2.1 ≠ (TJ8 b).2.1 := by decide +kernel
theorem tyJ8_ok : ∀ k, k < 0 → parseFieldDescriptor (TJ8 k).2.2.1 = some (tyJ8 k) := by decide +kernel
def RJ3 : String := "jdk/internal/util/Preconditions"
def TJ3 : u_T := fun k => match k with
  | _ => ("", "", "", false)
def tyJ3 : Nat → FieldType := fun k => match k with
  | _ => .int
theorem nmJ3 : ∀ a, a < 0 → ∀ b, b < 0 → a ≠ b → (TJ3 a).2.1 ≠ (TJ3 b).2.1 := by decide +kernel
theorem tyJ3_ok : ∀ k, k < 0 → parseFieldDescriptor (TJ3 k).2.2.1 = some (tyJ3 k) := by decide +kernel
abbrev cJ3_checkIndex_8e157 : ByteArray := prog_43_method_11_code
def yJ3_checkIndex_8e157 : MethodName := ⟨RJ3, "checkIndex", "(IILjava/util/function/BiFunction;)I"⟩
def RL : String := "GoalHouseLaw"
def wsJ3_checkIndex_8e157 : List Cond := .code yJ3_checkIndex_8e157 cJ3_checkIndex_8e157 3 (some .int) :: ([])
def wsJ0_coder_7d493 : List Cond := .code yJ0_coder_7d493 cJ0_coder_7d493 1 (some .byte) :: ([.fieldLink RJ0 38 "java/lang/String" "COMPACT_STRINGS" "Z", .fieldLink RJ0 15 "java/lang/String" "coder" "B"] ++ wsJ00)
def wsJ0_length_8abf5 : List Cond := .code yJ0_length_8abf5 cJ0_length_8abf5 1 (some .int) :: ([.fieldLink RJ0 9 "java/lang/String" "value" "[B", .methodLink RJ0 335 yJ0_coder_7d493, .instanceMethod yJ0_coder_7d493, .selects RJ0 yJ0_coder_7d493 yJ0_coder_7d493, .initialized RJ0, .code yJ0_coder_7d493 cJ0_coder_7d493 1 (some .byte), .fieldLink RJ0 38 "java/lang/String" "COMPACT_STRINGS" "Z", .fieldLink RJ0 15 "java/lang/String" "coder" "B"] ++ wsJ00)
def wsJ0_isLatin1_aae02 : List Cond := .code yJ0_isLatin1_aae02 cJ0_isLatin1_aae02 1 (some .boolean) :: ([.fieldLink RJ0 38 "java/lang/String" "COMPACT_STRINGS" "Z", .fieldLink RJ0 15 "java/lang/String" "coder" "B"] ++ wsJ00)
def wsJ0_checkIndex_df160 : List Cond := .code yJ0_checkIndex_df160 cJ0_checkIndex_df160 2 none :: ([.fieldLink RJ0 1053 "jdk/internal/util/Preconditions" "SIOOBE_FORMATTER" "Ljava/util/function/BiFunction;", .methodLink RJ0 1059 yJ3_checkIndex_8e157, .static yJ3_checkIndex_8e157, .initialized RJ3, .code yJ3_checkIndex_8e157 cJ3_checkIndex_8e157 3 (some .int)])
def wsJ1_charAt_3b067 : List Cond := .code yJ1_charAt_3b067 cJ1_charAt_3b067 2 (some .char) :: ([.methodLink RJ1 9 yJ0_checkIndex_df160, .static yJ0_checkIndex_df160, .initialized RJ0, .code yJ0_checkIndex_df160 cJ0_checkIndex_df160 2 none, .fieldLink RJ0 1053 "jdk/internal/util/Preconditions" "SIOOBE_FORMATTER" "Ljava/util/function/BiFunction;", .methodLink RJ0 1059 yJ3_checkIndex_8e157, .static yJ3_checkIndex_8e157, .initialized RJ3, .code yJ3_checkIndex_8e157 cJ3_checkIndex_8e157 3 (some .int)])
def wsJ0_charAt_5068e_r1 : List Cond := [Cond.fieldLink RJ0 9 "java/lang/String" "value" "[B", Cond.methodLink RJ0 492 yJ0_isLatin1_aae02, Cond.instanceMethod yJ0_isLatin1_aae02, Cond.selects RJ0 yJ0_isLatin1_aae02 yJ0_isLatin1_aae02, Cond.initialized RJ0, Cond.code yJ0_isLatin1_aae02 cJ0_isLatin1_aae02 1 (some .boolean), Cond.fieldLink RJ0 38 "java/lang/String" "COMPACT_STRINGS" "Z", Cond.fieldLink RJ0 15 "java/lang/String" "coder" "B", Cond.methodLink RJ0 495 yJ1_charAt_3b067, Cond.static yJ1_charAt_3b067, Cond.initialized RJ1, Cond.code yJ1_charAt_3b067 cJ1_charAt_3b067 2 (some .char), Cond.methodLink RJ1 9 yJ0_checkIndex_df160, Cond.static yJ0_checkIndex_df160, Cond.code yJ0_checkIndex_df160 cJ0_checkIndex_df160 2 none, Cond.fieldLink RJ0 1053 "jdk/internal/util/Preconditions" "SIOOBE_FORMATTER" "Ljava/util/function/BiFunction;", Cond.methodLink RJ0 1059 yJ3_checkIndex_8e157, Cond.static yJ3_checkIndex_8e157, Cond.initialized RJ3, Cond.code yJ3_checkIndex_8e157 cJ3_checkIndex_8e157 3 (some .int), Cond.methodLink RJ0 498 yJ2_charAt_3b067, Cond.static yJ2_charAt_3b067, Cond.initialized RJ2, Cond.code yJ2_charAt_3b067 cJ2_charAt_3b067 2 (some .char)]
def wsJ0_charAt_5068e_r2 : List Cond := [Cond.methodLink RJ2 67 yJ2_checkIndex_2214a, Cond.static yJ2_checkIndex_2214a, Cond.code yJ2_checkIndex_2214a cJ2_checkIndex_2214a 2 none, Cond.methodLink RJ2 48 yJ2_length_9d52b, Cond.static yJ2_length_9d52b, Cond.code yJ2_length_9d52b cJ2_length_9d52b 1 (some .int), Cond.methodLink RJ2 414 yJ0_checkIndex_df160, Cond.methodLink RJ2 71 yJ2_getChar_3b067, Cond.static yJ2_getChar_3b067, Cond.code yJ2_getChar_3b067 cJ2_getChar_3b067 2 (some .char), Cond.fieldLink RJ2 44 "java/lang/StringUTF16" "$assertionsDisabled" "Z", Cond.fieldLink RJ2 59 "java/lang/StringUTF16" "HI_BYTE_SHIFT" "I", Cond.fieldLink RJ2 63 "java/lang/StringUTF16" "LO_BYTE_SHIFT" "I"]
def wsJ0_charAt_5068e : List Cond := .code yJ0_charAt_5068e cJ0_charAt_5068e 2 (some .char) :: ((wsJ0_charAt_5068e_r1 ++ wsJ0_charAt_5068e_r2) ++ wsJ00)
def wsX12_sameBytes_r1 : List Cond := [Cond.methodLink RX12 148 yJ0_length_8abf5, Cond.instanceMethod yJ0_length_8abf5, Cond.selects RJ0 yJ0_length_8abf5 yJ0_length_8abf5, Cond.initialized RJ0, Cond.code yJ0_length_8abf5 cJ0_length_8abf5 1 (some .int), Cond.fieldLink RJ0 9 "java/lang/String" "value" "[B", Cond.methodLink RJ0 335 yJ0_coder_7d493, Cond.instanceMethod yJ0_coder_7d493, Cond.selects RJ0 yJ0_coder_7d493 yJ0_coder_7d493, Cond.code yJ0_coder_7d493 cJ0_coder_7d493 1 (some .byte), Cond.fieldLink RJ0 38 "java/lang/String" "COMPACT_STRINGS" "Z", Cond.fieldLink RJ0 15 "java/lang/String" "coder" "B", Cond.methodLink RX12 151 yJ0_charAt_5068e, Cond.instanceMethod yJ0_charAt_5068e, Cond.selects RJ0 yJ0_charAt_5068e yJ0_charAt_5068e, Cond.code yJ0_charAt_5068e cJ0_charAt_5068e 2 (some .char), Cond.methodLink RJ0 492 yJ0_isLatin1_aae02, Cond.instanceMethod yJ0_isLatin1_aae02, Cond.selects RJ0 yJ0_isLatin1_aae02 yJ0_isLatin1_aae02, Cond.code yJ0_isLatin1_aae02 cJ0_isLatin1_aae02 1 (some .boolean), Cond.methodLink RJ0 495 yJ1_charAt_3b067, Cond.static yJ1_charAt_3b067, Cond.initialized RJ1, Cond.code yJ1_charAt_3b067 cJ1_charAt_3b067 2 (some .char)]
def wsX12_sameBytes_r2 : List Cond := [Cond.methodLink RJ1 9 yJ0_checkIndex_df160, Cond.static yJ0_checkIndex_df160, Cond.code yJ0_checkIndex_df160 cJ0_checkIndex_df160 2 none, Cond.fieldLink RJ0 1053 "jdk/internal/util/Preconditions" "SIOOBE_FORMATTER" "Ljava/util/function/BiFunction;", Cond.methodLink RJ0 1059 yJ3_checkIndex_8e157, Cond.static yJ3_checkIndex_8e157, Cond.initialized RJ3, Cond.code yJ3_checkIndex_8e157 cJ3_checkIndex_8e157 3 (some .int), Cond.methodLink RJ0 498 yJ2_charAt_3b067, Cond.static yJ2_charAt_3b067, Cond.initialized RJ2, Cond.code yJ2_charAt_3b067 cJ2_charAt_3b067 2 (some .char), Cond.methodLink RJ2 67 yJ2_checkIndex_2214a, Cond.static yJ2_checkIndex_2214a, Cond.code yJ2_checkIndex_2214a cJ2_checkIndex_2214a 2 none, Cond.methodLink RJ2 48 yJ2_length_9d52b, Cond.static yJ2_length_9d52b, Cond.code yJ2_length_9d52b cJ2_length_9d52b 1 (some .int), Cond.methodLink RJ2 414 yJ0_checkIndex_df160, Cond.methodLink RJ2 71 yJ2_getChar_3b067, Cond.static yJ2_getChar_3b067, Cond.code yJ2_getChar_3b067 cJ2_getChar_3b067 2 (some .char), Cond.fieldLink RJ2 44 "java/lang/StringUTF16" "$assertionsDisabled" "Z", Cond.fieldLink RJ2 59 "java/lang/StringUTF16" "HI_BYTE_SHIFT" "I"]
def wsX12_sameBytes_r3 : List Cond := [Cond.fieldLink RJ2 63 "java/lang/StringUTF16" "LO_BYTE_SHIFT" "I"]
def wsX12_sameBytes : List Cond := .code yX12_sameBytes cX12_sameBytes 6 (some .boolean) :: ((wsX12_sameBytes_r1 ++ (wsX12_sameBytes_r2 ++ wsX12_sameBytes_r3)) ++ wsJ00)
def wsX12_wordIn_r1 : List Cond := [Cond.methodLink RX12 148 yJ0_length_8abf5, Cond.instanceMethod yJ0_length_8abf5, Cond.selects RJ0 yJ0_length_8abf5 yJ0_length_8abf5, Cond.initialized RJ0, Cond.code yJ0_length_8abf5 cJ0_length_8abf5 1 (some .int), Cond.fieldLink RJ0 9 "java/lang/String" "value" "[B", Cond.methodLink RJ0 335 yJ0_coder_7d493, Cond.instanceMethod yJ0_coder_7d493, Cond.selects RJ0 yJ0_coder_7d493 yJ0_coder_7d493, Cond.code yJ0_coder_7d493 cJ0_coder_7d493 1 (some .byte), Cond.fieldLink RJ0 38 "java/lang/String" "COMPACT_STRINGS" "Z", Cond.fieldLink RJ0 15 "java/lang/String" "coder" "B", Cond.methodLink RX12 151 yJ0_charAt_5068e, Cond.instanceMethod yJ0_charAt_5068e, Cond.selects RJ0 yJ0_charAt_5068e yJ0_charAt_5068e, Cond.code yJ0_charAt_5068e cJ0_charAt_5068e 2 (some .char), Cond.methodLink RJ0 492 yJ0_isLatin1_aae02, Cond.instanceMethod yJ0_isLatin1_aae02, Cond.selects RJ0 yJ0_isLatin1_aae02 yJ0_isLatin1_aae02, Cond.code yJ0_isLatin1_aae02 cJ0_isLatin1_aae02 1 (some .boolean), Cond.methodLink RJ0 495 yJ1_charAt_3b067, Cond.static yJ1_charAt_3b067, Cond.initialized RJ1, Cond.code yJ1_charAt_3b067 cJ1_charAt_3b067 2 (some .char)]
def wsX12_wordIn_r2 : List Cond := [Cond.methodLink RJ1 9 yJ0_checkIndex_df160, Cond.static yJ0_checkIndex_df160, Cond.code yJ0_checkIndex_df160 cJ0_checkIndex_df160 2 none, Cond.fieldLink RJ0 1053 "jdk/internal/util/Preconditions" "SIOOBE_FORMATTER" "Ljava/util/function/BiFunction;", Cond.methodLink RJ0 1059 yJ3_checkIndex_8e157, Cond.static yJ3_checkIndex_8e157, Cond.initialized RJ3, Cond.code yJ3_checkIndex_8e157 cJ3_checkIndex_8e157 3 (some .int), Cond.methodLink RJ0 498 yJ2_charAt_3b067, Cond.static yJ2_charAt_3b067, Cond.initialized RJ2, Cond.code yJ2_charAt_3b067 cJ2_charAt_3b067 2 (some .char), Cond.methodLink RJ2 67 yJ2_checkIndex_2214a, Cond.static yJ2_checkIndex_2214a, Cond.code yJ2_checkIndex_2214a cJ2_checkIndex_2214a 2 none, Cond.methodLink RJ2 48 yJ2_length_9d52b, Cond.static yJ2_length_9d52b, Cond.code yJ2_length_9d52b cJ2_length_9d52b 1 (some .int), Cond.methodLink RJ2 414 yJ0_checkIndex_df160, Cond.methodLink RJ2 71 yJ2_getChar_3b067, Cond.static yJ2_getChar_3b067, Cond.code yJ2_getChar_3b067 cJ2_getChar_3b067 2 (some .char), Cond.fieldLink RJ2 44 "java/lang/StringUTF16" "$assertionsDisabled" "Z", Cond.fieldLink RJ2 59 "java/lang/StringUTF16" "HI_BYTE_SHIFT" "I"]
def wsX12_wordIn_r3 : List Cond := [Cond.fieldLink RJ2 63 "java/lang/StringUTF16" "LO_BYTE_SHIFT" "I", Cond.methodLink RX12 283 yX12_sameBytes, Cond.static yX12_sameBytes, Cond.initialized RX12, Cond.code yX12_sameBytes cX12_sameBytes 6 (some .boolean)]
def wsX12_wordIn : List Cond := .code yX12_wordIn cX12_wordIn 7 (some .int) :: ((wsX12_wordIn_r1 ++ (wsX12_wordIn_r2 ++ wsX12_wordIn_r3)) ++ wsJ00)
set_option maxRecDepth 20000 in
theorem ggX12_wordIn_J0_length_8abf5 : GoodIn wsX12_wordIn wsJ0_length_8abf5 := goodIn_r _ [5, 6, 7, 8, 9, 4, 10, 11, 12, 54, 55, 56, 57] (by decide +kernel) (by decide +kernel)
set_option maxRecDepth 20000 in
theorem gX12_wordIn_J0_length_8abf5 : GoodIn wsX12_wordIn (wsV RX12 148 RJ0 yJ0_length_8abf5 wsJ0_length_8abf5) := goodIn_app (goodIn_of _ (by decide +kernel)) ggX12_wordIn_J0_length_8abf5
set_option maxRecDepth 20000 in
theorem ggX12_wordIn_J0_charAt_5068e : GoodIn wsX12_wordIn wsJ0_charAt_5068e := goodIn_r _ [16, 6, 17, 18, 19, 4, 20, 11, 12, 21, 22, 23, 24, 25, 26, 27, 28, 29, 30, 31, 32, 33, 34, 35, 36, 37, 38, 39, 40, 41, 42, 43, 44, 45, 46, 47, 48, 49, 54, 55, 56, 57] (by decide +kernel) (by decide +kernel)
set_option maxRecDepth 20000 in
theorem gX12_wordIn_J0_charAt_5068e : GoodIn wsX12_wordIn (wsV RX12 151 RJ0 yJ0_charAt_5068e wsJ0_charAt_5068e) := goodIn_app (goodIn_of _ (by decide +kernel)) ggX12_wordIn_J0_charAt_5068e
set_option maxRecDepth 20000 in
theorem ggX12_wordIn_X12_sameBytes : GoodIn wsX12_wordIn wsX12_sameBytes := goodIn_r _ [53, 1, 2, 3, 4, 5, 6, 7, 8, 9, 10, 11, 12, 13, 14, 15, 16, 17, 18, 19, 20, 21, 22, 23, 24, 25, 26, 27, 28, 29, 30, 31, 32, 33, 34, 35, 36, 37, 38, 39, 40, 41, 42, 43, 44, 45, 46, 47, 48, 49, 54, 55, 56, 57] (by decide +kernel) (by decide +kernel)
set_option maxRecDepth 20000 in
theorem gX12_wordIn_X12_sameBytes : GoodIn wsX12_wordIn (va_wsS RX12 283 yX12_sameBytes wsX12_sameBytes) := goodIn_app (goodIn_of _ (by decide +kernel)) ggX12_wordIn_X12_sameBytes
theorem dX12_wordIn_0 : decode cX12_wordIn 0 = .ok (.iconst 0, 1) := by decide +kernel
theorem dX12_wordIn_1 : decode cX12_wordIn 1 = .ok (.istore 4, 2) := by decide +kernel
theorem dX12_wordIn_3 : decode cX12_wordIn 3 = .ok (.iconst 0, 1) := by decide +kernel
theorem dX12_wordIn_4 : decode cX12_wordIn 4 = .ok (.istore 5, 2) := by decide +kernel
theorem dX12_wordIn_6 : decode cX12_wordIn 6 = .ok (.iconst 0, 1) := by decide +kernel
theorem dX12_wordIn_7 : decode cX12_wordIn 7 = .ok (.istore 6, 2) := by decide +kernel
theorem dX12_wordIn_9 : decode cX12_wordIn 9 = .ok (.iload 6, 2) := by decide +kernel
theorem dX12_wordIn_11 : decode cX12_wordIn 11 = .ok (.aload_n 0, 1) := by decide +kernel
theorem dX12_wordIn_12 : decode cX12_wordIn 12 = .ok (.invokevirtual 148, 3) := by decide +kernel
theorem dX12_wordIn_15 : decode cX12_wordIn 15 = .ok (.if_icmp .ge 53, 3) := by decide +kernel
theorem dX12_wordIn_18 : decode cX12_wordIn 18 = .ok (.aload_n 0, 1) := by decide +kernel
theorem dX12_wordIn_19 : decode cX12_wordIn 19 = .ok (.iload 6, 2) := by decide +kernel
theorem dX12_wordIn_21 : decode cX12_wordIn 21 = .ok (.invokevirtual 151, 3) := by decide +kernel
theorem dX12_wordIn_24 : decode cX12_wordIn 24 = .ok (.bipush 32, 2) := by decide +kernel
theorem dX12_wordIn_26 : decode cX12_wordIn 26 = .ok (.if_icmp .ne 36, 3) := by decide +kernel
theorem dX12_wordIn_29 : decode cX12_wordIn 29 = .ok (.iload 6, 2) := by decide +kernel
theorem dX12_wordIn_31 : decode cX12_wordIn 31 = .ok (.iload 5, 2) := by decide +kernel
theorem dX12_wordIn_33 : decode cX12_wordIn 33 = .ok (.isub, 1) := by decide +kernel
theorem dX12_wordIn_34 : decode cX12_wordIn 34 = .ok (.iload_n 3, 1) := by decide +kernel
theorem dX12_wordIn_35 : decode cX12_wordIn 35 = .ok (.if_icmp .ne 18, 3) := by decide +kernel
theorem dX12_wordIn_38 : decode cX12_wordIn 38 = .ok (.aload_n 0, 1) := by decide +kernel
theorem dX12_wordIn_39 : decode cX12_wordIn 39 = .ok (.iload 5, 2) := by decide +kernel
theorem dX12_wordIn_41 : decode cX12_wordIn 41 = .ok (.aload_n 1, 1) := by decide +kernel
theorem dX12_wordIn_42 : decode cX12_wordIn 42 = .ok (.iload_n 2, 1) := by decide +kernel
theorem dX12_wordIn_43 : decode cX12_wordIn 43 = .ok (.iload_n 3, 1) := by decide +kernel
theorem dX12_wordIn_44 : decode cX12_wordIn 44 = .ok (.invokestatic 283, 3) := by decide +kernel
theorem dX12_wordIn_47 : decode cX12_wordIn 47 = .ok (.ifCond .eq 6, 3) := by decide +kernel
theorem dX12_wordIn_50 : decode cX12_wordIn 50 = .ok (.iload 4, 2) := by decide +kernel
theorem dX12_wordIn_52 : decode cX12_wordIn 52 = .ok (.ireturn, 1) := by decide +kernel
theorem dX12_wordIn_53 : decode cX12_wordIn 53 = .ok (.iinc 4 1, 3) := by decide +kernel
theorem dX12_wordIn_56 : decode cX12_wordIn 56 = .ok (.iload 6, 2) := by decide +kernel
theorem dX12_wordIn_58 : decode cX12_wordIn 58 = .ok (.iconst 1, 1) := by decide +kernel
theorem dX12_wordIn_59 : decode cX12_wordIn 59 = .ok (.iadd, 1) := by decide +kernel
theorem dX12_wordIn_60 : decode cX12_wordIn 60 = .ok (.istore 5, 2) := by decide +kernel
theorem dX12_wordIn_62 : decode cX12_wordIn 62 = .ok (.iinc 6 1, 3) := by decide +kernel
theorem dX12_wordIn_65 : decode cX12_wordIn 65 = .ok (.goto (-56), 3) := by decide +kernel
theorem dX12_wordIn_68 : decode cX12_wordIn 68 = .ok (.iconst (-1), 1) := by decide +kernel
theorem dX12_wordIn_69 : decode cX12_wordIn 69 = .ok (.ireturn, 1) := by decide +kernel
set_option maxRecDepth 20000 in
theorem ggX12_sameBytes_J0_length_8abf5 : GoodIn wsX12_sameBytes wsJ0_length_8abf5 := goodIn_r _ [5, 6, 7, 8, 9, 4, 10, 11, 12, 50, 51, 52, 53] (by decide +kernel) (by decide +kernel)
set_option maxRecDepth 20000 in
theorem gX12_sameBytes_J0_length_8abf5 : GoodIn wsX12_sameBytes (wsV RX12 148 RJ0 yJ0_length_8abf5 wsJ0_length_8abf5) := goodIn_app (goodIn_of _ (by decide +kernel)) ggX12_sameBytes_J0_length_8abf5
set_option maxRecDepth 20000 in
theorem ggX12_sameBytes_J0_charAt_5068e : GoodIn wsX12_sameBytes wsJ0_charAt_5068e := goodIn_r _ [16, 6, 17, 18, 19, 4, 20, 11, 12, 21, 22, 23, 24, 25, 26, 27, 28, 29, 30, 31, 32, 33, 34, 35, 36, 37, 38, 39, 40, 41, 42, 43, 44, 45, 46, 47, 48, 49, 50, 51, 52, 53] (by decide +kernel) (by decide +kernel)
set_option maxRecDepth 20000 in
theorem gX12_sameBytes_J0_charAt_5068e : GoodIn wsX12_sameBytes (wsV RX12 151 RJ0 yJ0_charAt_5068e wsJ0_charAt_5068e) := goodIn_app (goodIn_of _ (by decide +kernel)) ggX12_sameBytes_J0_charAt_5068e
theorem dX12_sameBytes_0 : decode cX12_sameBytes 0 = .ok (.iload_n 1, 1) := by decide +kernel
theorem dX12_sameBytes_1 : decode cX12_sameBytes 1 = .ok (.iload 4, 2) := by decide +kernel
theorem dX12_sameBytes_3 : decode cX12_sameBytes 3 = .ok (.iadd, 1) := by decide +kernel
theorem dX12_sameBytes_4 : decode cX12_sameBytes 4 = .ok (.aload_n 0, 1) := by decide +kernel
theorem dX12_sameBytes_5 : decode cX12_sameBytes 5 = .ok (.invokevirtual 148, 3) := by decide +kernel
theorem dX12_sameBytes_8 : decode cX12_sameBytes 8 = .ok (.if_icmp .gt 16, 3) := by decide +kernel
theorem dX12_sameBytes_11 : decode cX12_sameBytes 11 = .ok (.iload_n 3, 1) := by decide +kernel
theorem dX12_sameBytes_12 : decode cX12_sameBytes 12 = .ok (.ifCond .lt 12, 3) := by decide +kernel
theorem dX12_sameBytes_15 : decode cX12_sameBytes 15 = .ok (.iload_n 3, 1) := by decide +kernel
theorem dX12_sameBytes_16 : decode cX12_sameBytes 16 = .ok (.iload 4, 2) := by decide +kernel
theorem dX12_sameBytes_18 : decode cX12_sameBytes 18 = .ok (.iadd, 1) := by decide +kernel
theorem dX12_sameBytes_19 : decode cX12_sameBytes 19 = .ok (.aload_n 2, 1) := by decide +kernel
theorem dX12_sameBytes_20 : decode cX12_sameBytes 20 = .ok (.arraylength, 1) := by decide +kernel
theorem dX12_sameBytes_21 : decode cX12_sameBytes 21 = .ok (.if_icmp .le 5, 3) := by decide +kernel
theorem dX12_sameBytes_24 : decode cX12_sameBytes 24 = .ok (.iconst 0, 1) := by decide +kernel
theorem dX12_sameBytes_25 : decode cX12_sameBytes 25 = .ok (.ireturn, 1) := by decide +kernel
theorem dX12_sameBytes_26 : decode cX12_sameBytes 26 = .ok (.iconst 0, 1) := by decide +kernel
theorem dX12_sameBytes_27 : decode cX12_sameBytes 27 = .ok (.istore 5, 2) := by decide +kernel
theorem dX12_sameBytes_29 : decode cX12_sameBytes 29 = .ok (.iload 5, 2) := by decide +kernel
theorem dX12_sameBytes_31 : decode cX12_sameBytes 31 = .ok (.iload 4, 2) := by decide +kernel
theorem dX12_sameBytes_33 : decode cX12_sameBytes 33 = .ok (.if_icmp .ge 32, 3) := by decide +kernel
theorem dX12_sameBytes_36 : decode cX12_sameBytes 36 = .ok (.aload_n 0, 1) := by decide +kernel
theorem dX12_sameBytes_37 : decode cX12_sameBytes 37 = .ok (.iload_n 1, 1) := by decide +kernel
theorem dX12_sameBytes_38 : decode cX12_sameBytes 38 = .ok (.iload 5, 2) := by decide +kernel
theorem dX12_sameBytes_40 : decode cX12_sameBytes 40 = .ok (.iadd, 1) := by decide +kernel
theorem dX12_sameBytes_41 : decode cX12_sameBytes 41 = .ok (.invokevirtual 151, 3) := by decide +kernel
theorem dX12_sameBytes_44 : decode cX12_sameBytes 44 = .ok (.aload_n 2, 1) := by decide +kernel
theorem dX12_sameBytes_45 : decode cX12_sameBytes 45 = .ok (.iload_n 3, 1) := by decide +kernel
theorem dX12_sameBytes_46 : decode cX12_sameBytes 46 = .ok (.iload 5, 2) := by decide +kernel
theorem dX12_sameBytes_48 : decode cX12_sameBytes 48 = .ok (.iadd, 1) := by decide +kernel
theorem dX12_sameBytes_49 : decode cX12_sameBytes 49 = .ok (.baload, 1) := by decide +kernel
theorem dX12_sameBytes_50 : decode cX12_sameBytes 50 = .ok (.sipush 255, 3) := by decide +kernel
theorem dX12_sameBytes_53 : decode cX12_sameBytes 53 = .ok (.iand, 1) := by decide +kernel
theorem dX12_sameBytes_54 : decode cX12_sameBytes 54 = .ok (.if_icmp .eq 5, 3) := by decide +kernel
theorem dX12_sameBytes_57 : decode cX12_sameBytes 57 = .ok (.iconst 0, 1) := by decide +kernel
theorem dX12_sameBytes_58 : decode cX12_sameBytes 58 = .ok (.ireturn, 1) := by decide +kernel
theorem dX12_sameBytes_59 : decode cX12_sameBytes 59 = .ok (.iinc 5 1, 3) := by decide +kernel
theorem dX12_sameBytes_62 : decode cX12_sameBytes 62 = .ok (.goto (-33), 3) := by decide +kernel
theorem dX12_sameBytes_65 : decode cX12_sameBytes 65 = .ok (.iconst 1, 1) := by decide +kernel
theorem dX12_sameBytes_66 : decode cX12_sameBytes 66 = .ok (.ireturn, 1) := by decide +kernel
set_option maxRecDepth 20000 in
theorem ggJ0_length_8abf5_J0_coder_7d493 : GoodIn wsJ0_length_8abf5 wsJ0_coder_7d493 := goodIn_r _ [6, 7, 8, 9, 10, 11, 12] (by decide +kernel) (by decide +kernel)
set_option maxRecDepth 20000 in
theorem gJ0_length_8abf5_J0_coder_7d493 : GoodIn wsJ0_length_8abf5 (wsV RJ0 335 RJ0 yJ0_coder_7d493 wsJ0_coder_7d493) := goodIn_app (goodIn_of _ (by decide +kernel)) ggJ0_length_8abf5_J0_coder_7d493
theorem dJ0_length_8abf5_0 : decode cJ0_length_8abf5 0 = .ok (.aload_n 0, 1) := by decide +kernel
theorem dJ0_length_8abf5_1 : decode cJ0_length_8abf5 1 = .ok (.getfield 9, 3) := by decide +kernel
theorem dJ0_length_8abf5_4 : decode cJ0_length_8abf5 4 = .ok (.arraylength, 1) := by decide +kernel
theorem dJ0_length_8abf5_5 : decode cJ0_length_8abf5 5 = .ok (.aload_n 0, 1) := by decide +kernel
theorem dJ0_length_8abf5_6 : decode cJ0_length_8abf5 6 = .ok (.invokevirtual 335, 3) := by decide +kernel
theorem dJ0_length_8abf5_9 : decode cJ0_length_8abf5 9 = .ok (.ishr, 1) := by decide +kernel
theorem dJ0_length_8abf5_10 : decode cJ0_length_8abf5 10 = .ok (.ireturn, 1) := by decide +kernel
set_option maxRecDepth 20000 in
theorem ggJ0_charAt_5068e_J0_isLatin1_aae02 : GoodIn wsJ0_charAt_5068e wsJ0_isLatin1_aae02 := goodIn_r _ [6, 7, 8, 38, 39, 40, 41] (by decide +kernel) (by decide +kernel)
set_option maxRecDepth 20000 in
theorem gJ0_charAt_5068e_J0_isLatin1_aae02 : GoodIn wsJ0_charAt_5068e (wsV RJ0 492 RJ0 yJ0_isLatin1_aae02 wsJ0_isLatin1_aae02) := goodIn_app (goodIn_of _ (by decide +kernel)) ggJ0_charAt_5068e_J0_isLatin1_aae02
set_option maxRecDepth 20000 in
theorem ggJ0_charAt_5068e_J1_charAt_3b067 : GoodIn wsJ0_charAt_5068e wsJ1_charAt_3b067 := goodIn_r _ [12, 13, 14, 5, 15, 16, 17, 18, 19, 20] (by decide +kernel) (by decide +kernel)
set_option maxRecDepth 20000 in
theorem gJ0_charAt_5068e_J1_charAt_3b067 : GoodIn wsJ0_charAt_5068e (va_wsS RJ0 495 yJ1_charAt_3b067 wsJ1_charAt_3b067) := goodIn_app (goodIn_of _ (by decide +kernel)) ggJ0_charAt_5068e_J1_charAt_3b067
theorem dJ0_charAt_5068e_0 : decode cJ0_charAt_5068e 0 = .ok (.aload_n 0, 1) := by decide +kernel
theorem dJ0_charAt_5068e_1 : decode cJ0_charAt_5068e 1 = .ok (.invokevirtual 492, 3) := by decide +kernel
theorem dJ0_charAt_5068e_4 : decode cJ0_charAt_5068e 4 = .ok (.ifCond .eq 12, 3) := by decide +kernel
theorem dJ0_charAt_5068e_7 : decode cJ0_charAt_5068e 7 = .ok (.aload_n 0, 1) := by decide +kernel
theorem dJ0_charAt_5068e_8 : decode cJ0_charAt_5068e 8 = .ok (.getfield 9, 3) := by decide +kernel
theorem dJ0_charAt_5068e_11 : decode cJ0_charAt_5068e 11 = .ok (.iload_n 1, 1) := by decide +kernel
theorem dJ0_charAt_5068e_12 : decode cJ0_charAt_5068e 12 = .ok (.invokestatic 495, 3) := by decide +kernel
theorem dJ0_charAt_5068e_15 : decode cJ0_charAt_5068e 15 = .ok (.ireturn, 1) := by decide +kernel
theorem dJ0_charAt_5068e_16 : decode cJ0_charAt_5068e 16 = .ok (.aload_n 0, 1) := by decide +kernel
theorem dJ0_charAt_5068e_17 : decode cJ0_charAt_5068e 17 = .ok (.getfield 9, 3) := by decide +kernel
theorem dJ0_charAt_5068e_20 : decode cJ0_charAt_5068e 20 = .ok (.iload_n 1, 1) := by decide +kernel
theorem dJ0_charAt_5068e_21 : decode cJ0_charAt_5068e 21 = .ok (.invokestatic 498, 3) := by decide +kernel
theorem dJ0_charAt_5068e_24 : decode cJ0_charAt_5068e 24 = .ok (.ireturn, 1) := by decide +kernel
theorem dJ0_coder_7d493_0 : decode cJ0_coder_7d493 0 = .ok (.getstatic 38, 3) := by decide +kernel
theorem dJ0_coder_7d493_3 : decode cJ0_coder_7d493 3 = .ok (.ifCond .eq 10, 3) := by decide +kernel
theorem dJ0_coder_7d493_6 : decode cJ0_coder_7d493 6 = .ok (.aload_n 0, 1) := by decide +kernel
theorem dJ0_coder_7d493_7 : decode cJ0_coder_7d493 7 = .ok (.getfield 15, 3) := by decide +kernel
theorem dJ0_coder_7d493_10 : decode cJ0_coder_7d493 10 = .ok (.goto 4, 3) := by decide +kernel
theorem dJ0_coder_7d493_13 : decode cJ0_coder_7d493 13 = .ok (.iconst 1, 1) := by decide +kernel
theorem dJ0_coder_7d493_14 : decode cJ0_coder_7d493 14 = .ok (.ireturn, 1) := by decide +kernel
theorem dJ0_isLatin1_aae02_0 : decode cJ0_isLatin1_aae02 0 = .ok (.getstatic 38, 3) := by decide +kernel
theorem dJ0_isLatin1_aae02_3 : decode cJ0_isLatin1_aae02 3 = .ok (.ifCond .eq 14, 3) := by decide +kernel
theorem dJ0_isLatin1_aae02_6 : decode cJ0_isLatin1_aae02 6 = .ok (.aload_n 0, 1) := by decide +kernel
theorem dJ0_isLatin1_aae02_7 : decode cJ0_isLatin1_aae02 7 = .ok (.getfield 15, 3) := by decide +kernel
theorem dJ0_isLatin1_aae02_10 : decode cJ0_isLatin1_aae02 10 = .ok (.ifCond .ne 7, 3) := by decide +kernel
theorem dJ0_isLatin1_aae02_13 : decode cJ0_isLatin1_aae02 13 = .ok (.iconst 1, 1) := by decide +kernel
theorem dJ0_isLatin1_aae02_14 : decode cJ0_isLatin1_aae02 14 = .ok (.goto 4, 3) := by decide +kernel
theorem dJ0_isLatin1_aae02_17 : decode cJ0_isLatin1_aae02 17 = .ok (.iconst 0, 1) := by decide +kernel
theorem dJ0_isLatin1_aae02_18 : decode cJ0_isLatin1_aae02 18 = .ok (.ireturn, 1) := by decide +kernel
set_option maxRecDepth 20000 in
theorem ggJ0_checkIndex_df160_J3_checkIndex_8e157 : GoodIn wsJ0_checkIndex_df160 wsJ3_checkIndex_8e157 := goodIn_r _ [5] (by decide +kernel) (by decide +kernel)
set_option maxRecDepth 20000 in
theorem gJ0_checkIndex_df160_J3_checkIndex_8e157 : GoodIn wsJ0_checkIndex_df160 (va_wsS RJ0 1059 yJ3_checkIndex_8e157 wsJ3_checkIndex_8e157) := goodIn_app (goodIn_of _ (by decide +kernel)) ggJ0_checkIndex_df160_J3_checkIndex_8e157
theorem dJ0_checkIndex_df160_0 : decode cJ0_checkIndex_df160 0 = .ok (.iload_n 0, 1) := by decide +kernel
theorem dJ0_checkIndex_df160_1 : decode cJ0_checkIndex_df160 1 = .ok (.iload_n 1, 1) := by decide +kernel
theorem dJ0_checkIndex_df160_2 : decode cJ0_checkIndex_df160 2 = .ok (.getstatic 1053, 3) := by decide +kernel
theorem dJ0_checkIndex_df160_5 : decode cJ0_checkIndex_df160 5 = .ok (.invokestatic 1059, 3) := by decide +kernel
theorem dJ0_checkIndex_df160_8 : decode cJ0_checkIndex_df160 8 = .ok (.pop, 1) := by decide +kernel
theorem dJ0_checkIndex_df160_9 : decode cJ0_checkIndex_df160 9 = .ok (.return_, 1) := by decide +kernel
set_option maxRecDepth 20000 in
theorem ggJ1_charAt_3b067_J0_checkIndex_df160 : GoodIn wsJ1_charAt_3b067 wsJ0_checkIndex_df160 := goodIn_r _ [4, 5, 6, 7, 8, 9] (by decide +kernel) (by decide +kernel)
set_option maxRecDepth 20000 in
theorem gJ1_charAt_3b067_J0_checkIndex_df160 : GoodIn wsJ1_charAt_3b067 (va_wsS RJ1 9 yJ0_checkIndex_df160 wsJ0_checkIndex_df160) := goodIn_app (goodIn_of _ (by decide +kernel)) ggJ1_charAt_3b067_J0_checkIndex_df160
theorem dJ1_charAt_3b067_0 : decode cJ1_charAt_3b067 0 = .ok (.iload_n 1, 1) := by decide +kernel
theorem dJ1_charAt_3b067_1 : decode cJ1_charAt_3b067 1 = .ok (.aload_n 0, 1) := by decide +kernel
theorem dJ1_charAt_3b067_2 : decode cJ1_charAt_3b067 2 = .ok (.arraylength, 1) := by decide +kernel
theorem dJ1_charAt_3b067_3 : decode cJ1_charAt_3b067 3 = .ok (.invokestatic 9, 3) := by decide +kernel
theorem dJ1_charAt_3b067_6 : decode cJ1_charAt_3b067 6 = .ok (.aload_n 0, 1) := by decide +kernel
theorem dJ1_charAt_3b067_7 : decode cJ1_charAt_3b067 7 = .ok (.iload_n 1, 1) := by decide +kernel
theorem dJ1_charAt_3b067_8 : decode cJ1_charAt_3b067 8 = .ok (.baload, 1) := by decide +kernel
theorem dJ1_charAt_3b067_9 : decode cJ1_charAt_3b067 9 = .ok (.sipush 255, 3) := by decide +kernel
theorem dJ1_charAt_3b067_12 : decode cJ1_charAt_3b067 12 = .ok (.iand, 1) := by decide +kernel
theorem dJ1_charAt_3b067_13 : decode cJ1_charAt_3b067 13 = .ok (.i2c, 1) := by decide +kernel
theorem dJ1_charAt_3b067_14 : decode cJ1_charAt_3b067 14 = .ok (.ireturn, 1) := by decide +kernel
theorem dJ3_checkIndex_8e157_0 : decode cJ3_checkIndex_8e157 0 = .ok (.iload_n 0, 1) := by decide +kernel
theorem dJ3_checkIndex_8e157_1 : decode cJ3_checkIndex_8e157 1 = .ok (.ifCond .lt 8, 3) := by decide +kernel
theorem dJ3_checkIndex_8e157_4 : decode cJ3_checkIndex_8e157 4 = .ok (.iload_n 0, 1) := by decide +kernel
theorem dJ3_checkIndex_8e157_5 : decode cJ3_checkIndex_8e157 5 = .ok (.iload_n 1, 1) := by decide +kernel
theorem dJ3_checkIndex_8e157_6 : decode cJ3_checkIndex_8e157 6 = .ok (.if_icmp .lt 10, 3) := by decide +kernel
theorem dJ3_checkIndex_8e157_9 : decode cJ3_checkIndex_8e157 9 = .ok (.aload_n 2, 1) := by decide +kernel
theorem dJ3_checkIndex_8e157_10 : decode cJ3_checkIndex_8e157 10 = .ok (.iload_n 0, 1) := by decide +kernel
theorem dJ3_checkIndex_8e157_11 : decode cJ3_checkIndex_8e157 11 = .ok (.iload_n 1, 1) := by decide +kernel
theorem dJ3_checkIndex_8e157_12 : decode cJ3_checkIndex_8e157 12 = .ok (.invokestatic 95, 3) := by decide +kernel
theorem dJ3_checkIndex_8e157_15 : decode cJ3_checkIndex_8e157 15 = .ok (.athrow, 1) := by decide +kernel
theorem dJ3_checkIndex_8e157_16 : decode cJ3_checkIndex_8e157 16 = .ok (.iload_n 0, 1) := by decide +kernel
theorem dJ3_checkIndex_8e157_17 : decode cJ3_checkIndex_8e157 17 = .ok (.ireturn, 1) := by decide +kernel
abbrev vwCl : List vw_C := [(RJ0, TJ0, 4), (RJ4, TJ4, 4), (RJx4a65c, TJx4a65c, 3), (RX1, TX1, 4), (RX2, TX2, 17), (RX3, TX3, 21), (RX4, TX4, 14), (RX5, TX5, 14), (RX6, TX6, 11), (RX7, TX7, 23), (RX8, TX8, 21), (RX9, TX9, 4), (RX10, TX10, 19), (RX11, TX11, 11), (RX12, TX12, 11)]
