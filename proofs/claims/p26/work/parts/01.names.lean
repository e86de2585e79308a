theorem goodIn_r {big : List Cond} (ws : List Cond) (ps : List Nat) (hp : ws = ps.filterMap (fun i => big[i]?)) (h : ws.all goodWord = true) : GoodIn big ws := by
  intro w hw
  have h1 := List.all_eq_true.mp h w hw
  rw [hp] at hw
  obtain ⟨i, -, hi⟩ := List.mem_filterMap.mp hw
  have hm : w ∈ big := by first | exact List.mem_of_getElem? hi | exact List.getElem?_mem hi
  exact ⟨hm, good_of_word h1⟩
theorem goodIn_app {big a b : List Cond} (ha : GoodIn big a) (hb : GoodIn big b) : GoodIn big (a ++ b) := fun w h => (List.mem_append.mp h).elim (ha w) (hb w)
theorem goodIn_ca {big a b : List Cond} {c : Cond} (ha : GoodIn big (c :: a)) (hb : GoodIn big b) : GoodIn big (c :: (a ++ b)) := fun w h => (List.mem_cons.mp h).elim (fun e => ha w (List.mem_cons.mpr (Or.inl e))) (fun h => (List.mem_append.mp h).elim (fun h => ha w (List.mem_cons.mpr (Or.inr h))) (hb w))
theorem goodIn_sub {big ws : List Cond} (hm : ∀ w ∈ ws, w ∈ big) (h : ws.all goodWord = true) : GoodIn big ws := fun w hw => ⟨hm w hw, good_of_word (List.all_eq_true.mp h w hw)⟩
def RX0 : String := "GoalHouse$Acts"
def TX0 : u_T := fun k => match k with
  | _ => ("", "", "", false)
def tyX0 : Nat → FieldType := fun k => match k with
  | _ => .int
abbrev wsX00 : List Cond := u_ws RX0 TX0 0
theorem nmX0 : ∀ a, a < 0 → ∀ b, b < 0 → a ≠ b → (TX0 a).2.1 ≠ (TX0 b).2.1 := by decide +kernel
theorem tyX0_ok : ∀ k, k < 0 → parseFieldDescriptor (TX0 k).2.2.1 = some (tyX0 k) := by decide +kernel
def RX1 : String := "GoalHouse$Call"
def TX1 : u_T := fun k => match k with
  | 0 => ("GoalHouse$Call", "proc", "LGoalHouse$Proc;", true)
  | 1 => ("GoalHouse$Call", "cells", "[LGoalHouse$Val;", true)
  | 2 => ("GoalHouse$Call", "depth", "I", true)
  | _ => ("GoalHouse$Call", "frame", "LGoalHouse$Frame;", true)
def tyX1 : Nat → FieldType := fun k => match k with
  | 0 => .object "GoalHouse$Proc"
  | 1 => .array (.object "GoalHouse$Val")
  | 2 => .int
  | _ => .object "GoalHouse$Frame"
abbrev wsX10 : List Cond := u_ws RX1 TX1 4
theorem nmX1 : ∀ a, a < 4 → ∀ b, b < 4 → a ≠ b → (TX1 a).2.1 ≠ (TX1 b).2.1 := by decide +kernel
theorem tyX1_ok : ∀ k, k < 4 → parseFieldDescriptor (TX1 k).2.2.1 = some (tyX1 k) := by decide +kernel
def RX2 : String := "GoalHouse$Frame"
def TX2 : u_T := fun k => match k with
  | 0 => ("GoalHouse$Frame", "node", "LGoalHouse$Node;", true)
  | 1 => ("GoalHouse$Frame", "up", "LGoalHouse$Frame;", true)
  | 2 => ("GoalHouse$Frame", "prev", "LGoalHouse$Frame;", false)
  | 3 => ("GoalHouse$Frame", "last", "LGoalHouse$Frame;", false)
  | 4 => ("GoalHouse$Frame", "inner", "LGoalHouse$Frame;", false)
  | 5 => ("GoalHouse$Frame", "call", "LGoalHouse$Call;", false)
  | 6 => ("GoalHouse$Frame", "scan", "LGoalHouse$Scan;", false)
  | 7 => ("GoalHouse$Frame", "res", "LGoalHouse$Val;", false)
  | 8 => ("GoalHouse$Frame", "a", "LGoalHouse$Val;", false)
  | 9 => ("GoalHouse$Frame", "b", "LGoalHouse$Val;", false)
  | 10 => ("GoalHouse$Frame", "c", "LGoalHouse$Val;", false)
  | 11 => ("GoalHouse$Frame", "d", "LGoalHouse$Val;", false)
  | 12 => ("GoalHouse$Frame", "state", "I", false)
  | 13 => ("GoalHouse$Frame", "more", "I", false)
  | 14 => ("GoalHouse$Frame", "i", "J", false)
  | 15 => ("GoalHouse$Frame", "j", "J", false)
  | _ => ("GoalHouse$Frame", "n", "I", false)
def tyX2 : Nat → FieldType := fun k => match k with
  | 0 => .object "GoalHouse$Node"
  | 1 => .object "GoalHouse$Frame"
  | 2 => .object "GoalHouse$Frame"
  | 3 => .object "GoalHouse$Frame"
  | 4 => .object "GoalHouse$Frame"
  | 5 => .object "GoalHouse$Call"
  | 6 => .object "GoalHouse$Scan"
  | 7 => .object "GoalHouse$Val"
  | 8 => .object "GoalHouse$Val"
  | 9 => .object "GoalHouse$Val"
  | 10 => .object "GoalHouse$Val"
  | 11 => .object "GoalHouse$Val"
  | 12 => .int
  | 13 => .int
  | 14 => .long
  | 15 => .long
  | _ => .int
abbrev wsX20 : List Cond := u_ws RX2 TX2 17
theorem nmX2 : ∀ a, a < 17 → ∀ b, b < 17 → a ≠ b → (TX2 a).2.1 ≠ (TX2 b).2.1 := by decide +kernel
theorem tyX2_ok : ∀ k, k < 17 → parseFieldDescriptor (TX2 k).2.2.1 = some (tyX2 k) := by decide +kernel
def RX3 : String := "GoalHouse$Kit"
def TX3 : u_T := fun k => match k with
  | 0 => ("GoalHouse$Kit", "nul", "LGoalHouse$Val;", true)
  | 1 => ("GoalHouse$Kit", "empty", "LGoalHouse$Val;", true)
  | 2 => ("GoalHouse$Kit", "singles", "[LGoalHouse$Val;", true)
  | 3 => ("GoalHouse$Kit", "fixed", "[LGoalHouse$Val;", true)
  | 4 => ("GoalHouse$Kit", "library", "[LGoalHouse$Proc;", true)
  | 5 => ("GoalHouse$Kit", "work", "[LGoalHouse$Val;", true)
  | 6 => ("GoalHouse$Kit", "x", "[I", false)
  | 7 => ("GoalHouse$Kit", "y", "[I", false)
  | 8 => ("GoalHouse$Kit", "z", "[I", true)
  | 9 => ("GoalHouse$Kit", "image", "[B", true)
  | 10 => ("GoalHouse$Kit", "imageSize", "I", false)
  | 11 => ("GoalHouse$Kit", "args", "[LGoalHouse$Val;", false)
  | 12 => ("GoalHouse$Kit", "vals", "[LGoalHouse$Val;", false)
  | 13 => ("GoalHouse$Kit", "loose", "[LGoalHouse$Val;", false)
  | 14 => ("GoalHouse$Kit", "argCount", "I", false)
  | 15 => ("GoalHouse$Kit", "bag", "LGoalHouse$Thing;", true)
  | 16 => ("GoalHouse$Kit", "called", "LGoalHouse$Val;", false)
  | 17 => ("GoalHouse$Kit", "cells", "I", false)
  | 18 => ("GoalHouse$Kit", "steps", "I", false)
  | 19 => ("GoalHouse$Kit", "breakNumber", "I", false)
  | _ => ("GoalHouse$Kit", "breakValue", "LGoalHouse$Val;", false)
def tyX3 : Nat → FieldType := fun k => match k with
  | 0 => .object "GoalHouse$Val"
  | 1 => .object "GoalHouse$Val"
  | 2 => .array (.object "GoalHouse$Val")
  | 3 => .array (.object "GoalHouse$Val")
  | 4 => .array (.object "GoalHouse$Proc")
  | 5 => .array (.object "GoalHouse$Val")
  | 6 => .array .int
  | 7 => .array .int
  | 8 => .array .int
  | 9 => .array .byte
  | 10 => .int
  | 11 => .array (.object "GoalHouse$Val")
  | 12 => .array (.object "GoalHouse$Val")
  | 13 => .array (.object "GoalHouse$Val")
  | 14 => .int
  | 15 => .object "GoalHouse$Thing"
  | 16 => .object "GoalHouse$Val"
  | 17 => .int
  | 18 => .int
  | 19 => .int
  | _ => .object "GoalHouse$Val"
abbrev wsX30 : List Cond := u_ws RX3 TX3 21
theorem nmX3 : ∀ a, a < 21 → ∀ b, b < 21 → a ≠ b → (TX3 a).2.1 ≠ (TX3 b).2.1 := by decide +kernel
theorem tyX3_ok : ∀ k, k < 21 → parseFieldDescriptor (TX3 k).2.2.1 = some (tyX3 k) := by decide +kernel
def RX4 : String := "GoalHouse$Node"
def TX4 : u_T := fun k => match k with
  | 0 => ("GoalHouse$Node", "kind", "I", true)
  | 1 => ("GoalHouse$Node", "op", "I", false)
  | 2 => ("GoalHouse$Node", "place", "I", true)
  | 3 => ("GoalHouse$Node", "proc", "I", false)
  | 4 => ("GoalHouse$Node", "id", "I", false)
  | 5 => ("GoalHouse$Node", "kid", "LGoalHouse$Node;", false)
  | 6 => ("GoalHouse$Node", "tail", "LGoalHouse$Node;", false)
  | 7 => ("GoalHouse$Node", "next", "LGoalHouse$Node;", false)
  | 8 => ("GoalHouse$Node", "kids", "I", false)
  | 9 => ("GoalHouse$Node", "name", "Ljava/lang/String;", false)
  | 10 => ("GoalHouse$Node", "lit", "LGoalHouse$Val;", false)
  | 11 => ("GoalHouse$Node", "scope", "I", false)
  | 12 => ("GoalHouse$Node", "slot", "I", false)
  | _ => ("GoalHouse$Node", "loop", "LGoalHouse$Node;", false)
def tyX4 : Nat → FieldType := fun k => match k with
  | 0 => .int
  | 1 => .int
  | 2 => .int
  | 3 => .int
  | 4 => .int
  | 5 => .object "GoalHouse$Node"
  | 6 => .object "GoalHouse$Node"
  | 7 => .object "GoalHouse$Node"
  | 8 => .int
  | 9 => .object "java/lang/String"
  | 10 => .object "GoalHouse$Val"
  | 11 => .int
  | 12 => .int
  | _ => .object "GoalHouse$Node"
abbrev wsX40 : List Cond := u_ws RX4 TX4 14
theorem nmX4 : ∀ a, a < 14 → ∀ b, b < 14 → a ≠ b → (TX4 a).2.1 ≠ (TX4 b).2.1 := by decide +kernel
theorem tyX4_ok : ∀ k, k < 14 → parseFieldDescriptor (TX4 k).2.2.1 = some (tyX4 k) := by decide +kernel
def RX5 : String := "GoalHouse$Proc"
def TX5 : u_T := fun k => match k with
  | 0 => ("GoalHouse$Proc", "name", "Ljava/lang/String;", true)
  | 1 => ("GoalHouse$Proc", "kind", "I", true)
  | 2 => ("GoalHouse$Proc", "index", "I", false)
  | 3 => ("GoalHouse$Proc", "place", "I", false)
  | 4 => ("GoalHouse$Proc", "names", "Ljava/util/ArrayList;", true)
  | 5 => ("GoalHouse$Proc", "statics", "Ljava/util/ArrayList;", true)
  | 6 => ("GoalHouse$Proc", "params", "I", false)
  | 7 => ("GoalHouse$Proc", "told", "I", false)
  | 8 => ("GoalHouse$Proc", "rest", "Z", false)
  | 9 => ("GoalHouse$Proc", "staticBase", "I", false)
  | 10 => ("GoalHouse$Proc", "first", "LGoalHouse$Node;", false)
  | 11 => ("GoalHouse$Proc", "body", "LGoalHouse$Node;", false)
  | 12 => ("GoalHouse$Proc", "val", "LGoalHouse$Val;", false)
  | _ => ("GoalHouse$Proc", "word", "LGoalHouse$Val;", false)
def tyX5 : Nat → FieldType := fun k => match k with
  | 0 => .object "java/lang/String"
  | 1 => .int
  | 2 => .int
  | 3 => .int
  | 4 => .object "java/util/ArrayList"
  | 5 => .object "java/util/ArrayList"
  | 6 => .int
  | 7 => .int
  | 8 => .boolean
  | 9 => .int
  | 10 => .object "GoalHouse$Node"
  | 11 => .object "GoalHouse$Node"
  | 12 => .object "GoalHouse$Val"
  | _ => .object "GoalHouse$Val"
abbrev wsX50 : List Cond := u_ws RX5 TX5 14
theorem nmX5 : ∀ a, a < 14 → ∀ b, b < 14 → a ≠ b → (TX5 a).2.1 ≠ (TX5 b).2.1 := by decide +kernel
theorem tyX5_ok : ∀ k, k < 14 → parseFieldDescriptor (TX5 k).2.2.1 = some (tyX5 k) := by decide +kernel
def RX6 : String := "GoalHouse$Program"
def TX6 : u_T := fun k => match k with
  | 0 => ("GoalHouse$Program", "nodes", "Ljava/util/ArrayList;", true)
  | 1 => ("GoalHouse$Program", "procs", "Ljava/util/ArrayList;", true)
  | 2 => ("GoalHouse$Program", "records", "Ljava/util/ArrayList;", true)
  | 3 => ("GoalHouse$Program", "globals", "Ljava/util/ArrayList;", true)
  | 4 => ("GoalHouse$Program", "items", "Ljava/util/ArrayList;", true)
  | 5 => ("GoalHouse$Program", "written", "Ljava/lang/StringBuilder;", true)
  | 6 => ("GoalHouse$Program", "staticCount", "I", false)
  | 7 => ("GoalHouse$Program", "glue", "Z", false)
  | 8 => ("GoalHouse$Program", "todo", "[LGoalHouse$Node;", false)
  | 9 => ("GoalHouse$Program", "ways", "[I", false)
  | _ => ("GoalHouse$Program", "open", "I", false)
def tyX6 : Nat → FieldType := fun k => match k with
  | 0 => .object "java/util/ArrayList"
  | 1 => .object "java/util/ArrayList"
  | 2 => .object "java/util/ArrayList"
  | 3 => .object "java/util/ArrayList"
  | 4 => .object "java/util/ArrayList"
  | 5 => .object "java/lang/StringBuilder"
  | 6 => .int
  | 7 => .boolean
  | 8 => .array (.object "GoalHouse$Node")
  | 9 => .array .int
  | _ => .int
abbrev wsX60 : List Cond := u_ws RX6 TX6 11
theorem nmX6 : ∀ a, a < 11 → ∀ b, b < 11 → a ≠ b → (TX6 a).2.1 ≠ (TX6 b).2.1 := by decide +kernel
theorem tyX6_ok : ∀ k, k < 11 → parseFieldDescriptor (TX6 k).2.2.1 = some (tyX6 k) := by decide +kernel
def RX7 : String := "GoalHouse$Reader"
def TX7 : u_T := fun k => match k with
  | 0 => ("GoalHouse$Reader", "kit", "LGoalHouse$Kit;", false)
  | 1 => ("GoalHouse$Reader", "text", "[B", false)
  | 2 => ("GoalHouse$Reader", "size", "I", false)
  | 3 => ("GoalHouse$Reader", "at", "I", false)
  | 4 => ("GoalHouse$Reader", "kind", "I", false)
  | 5 => ("GoalHouse$Reader", "id", "I", false)
  | 6 => ("GoalHouse$Reader", "place", "I", false)
  | 7 => ("GoalHouse$Reader", "semi", "Z", false)
  | 8 => ("GoalHouse$Reader", "name", "Ljava/lang/String;", false)
  | 9 => ("GoalHouse$Reader", "lit", "LGoalHouse$Val;", false)
  | 10 => ("GoalHouse$Reader", "fault", "I", false)
  | 11 => ("GoalHouse$Reader", "faultAt", "I", false)
  | 12 => ("GoalHouse$Reader", "program", "LGoalHouse$Program;", false)
  | 13 => ("GoalHouse$Reader", "proc", "LGoalHouse$Proc;", false)
  | 14 => ("GoalHouse$Reader", "state", "I", false)
  | 15 => ("GoalHouse$Reader", "types", "[I", true)
  | 16 => ("GoalHouse$Reader", "nodes", "[LGoalHouse$Node;", true)
  | 17 => ("GoalHouse$Reader", "loops", "[LGoalHouse$Node;", true)
  | 18 => ("GoalHouse$Reader", "top", "I", false)
  | 19 => ("GoalHouse$Reader", "open", "I", false)
  | 20 => ("GoalHouse$Reader", "left", "LGoalHouse$Node;", false)
  | 21 => ("GoalHouse$Reader", "loop", "LGoalHouse$Node;", false)
  | _ => ("GoalHouse$Reader", "barred", "I", false)
def tyX7 : Nat → FieldType := fun k => match k with
  | 0 => .object "GoalHouse$Kit"
  | 1 => .array .byte
  | 2 => .int
  | 3 => .int
  | 4 => .int
  | 5 => .int
  | 6 => .int
  | 7 => .boolean
  | 8 => .object "java/lang/String"
  | 9 => .object "GoalHouse$Val"
  | 10 => .int
  | 11 => .int
  | 12 => .object "GoalHouse$Program"
  | 13 => .object "GoalHouse$Proc"
  | 14 => .int
  | 15 => .array .int
  | 16 => .array (.object "GoalHouse$Node")
  | 17 => .array (.object "GoalHouse$Node")
  | 18 => .int
  | 19 => .int
  | 20 => .object "GoalHouse$Node"
  | 21 => .object "GoalHouse$Node"
  | _ => .int
abbrev wsX70 : List Cond := u_ws RX7 TX7 23
theorem nmX7 : ∀ a, a < 23 → ∀ b, b < 23 → a ≠ b → (TX7 a).2.1 ≠ (TX7 b).2.1 := by decide +kernel
theorem tyX7_ok : ∀ k, k < 23 → parseFieldDescriptor (TX7 k).2.2.1 = some (tyX7 k) := by decide +kernel
def RX8 : String := "GoalHouse$Run"
def TX8 : u_T := fun k => match k with
  | 0 => ("GoalHouse$Run", "kit", "LGoalHouse$Kit;", true)
  | 1 => ("GoalHouse$Run", "program", "LGoalHouse$Program;", false)
  | 2 => ("GoalHouse$Run", "told", "[I", true)
  | 3 => ("GoalHouse$Run", "seed", "I", false)
  | 4 => ("GoalHouse$Run", "input", "[B", false)
  | 5 => ("GoalHouse$Run", "out", "[B", true)
  | 6 => ("GoalHouse$Run", "events", "[I", true)
  | 7 => ("GoalHouse$Run", "counts", "[I", true)
  | 8 => ("GoalHouse$Run", "globals", "[LGoalHouse$Val;", false)
  | 9 => ("GoalHouse$Run", "statics", "[LGoalHouse$Val;", false)
  | 10 => ("GoalHouse$Run", "initiated", "[Z", false)
  | 11 => ("GoalHouse$Run", "things", "Ljava/util/ArrayList;", true)
  | 12 => ("GoalHouse$Run", "made", "[B", false)
  | 13 => ("GoalHouse$Run", "base", "LGoalHouse$Scan;", false)
  | 14 => ("GoalHouse$Run", "errorNumber", "LGoalHouse$Val;", false)
  | 15 => ("GoalHouse$Run", "errorValue", "LGoalHouse$Val;", false)
  | 16 => ("GoalHouse$Run", "mode", "I", false)
  | 17 => ("GoalHouse$Run", "cur", "LGoalHouse$Frame;", false)
  | 18 => ("GoalHouse$Run", "active", "LGoalHouse$Thing;", false)
  | 19 => ("GoalHouse$Run", "goalFrame", "LGoalHouse$Frame;", false)
  | _ => ("GoalHouse$Run", "result", "LGoalHouse$Val;", false)
def tyX8 : Nat → FieldType := fun k => match k with
  | 0 => .object "GoalHouse$Kit"
  | 1 => .object "GoalHouse$Program"
  | 2 => .array .int
  | 3 => .int
  | 4 => .array .byte
  | 5 => .array .byte
  | 6 => .array .int
  | 7 => .array .int
  | 8 => .array (.object "GoalHouse$Val")
  | 9 => .array (.object "GoalHouse$Val")
  | 10 => .array .boolean
  | 11 => .object "java/util/ArrayList"
  | 12 => .array .byte
  | 13 => .object "GoalHouse$Scan"
  | 14 => .object "GoalHouse$Val"
  | 15 => .object "GoalHouse$Val"
  | 16 => .int
  | 17 => .object "GoalHouse$Frame"
  | 18 => .object "GoalHouse$Thing"
  | 19 => .object "GoalHouse$Frame"
  | _ => .object "GoalHouse$Val"
abbrev wsX80 : List Cond := u_ws RX8 TX8 21
theorem nmX8 : ∀ a, a < 21 → ∀ b, b < 21 → a ≠ b → (TX8 a).2.1 ≠ (TX8 b).2.1 := by decide +kernel
theorem tyX8_ok : ∀ k, k < 21 → parseFieldDescriptor (TX8 k).2.2.1 = some (tyX8 k) := by decide +kernel
def RX9 : String := "GoalHouse$Scan"
def TX9 : u_T := fun k => match k with
  | 0 => ("GoalHouse$Scan", "subject", "LGoalHouse$Val;", false)
  | 1 => ("GoalHouse$Scan", "pos", "I", false)
  | 2 => ("GoalHouse$Scan", "subjectCell", "LGoalHouse$Val;", false)
  | _ => ("GoalHouse$Scan", "posCell", "LGoalHouse$Val;", false)
def tyX9 : Nat → FieldType := fun k => match k with
  | 0 => .object "GoalHouse$Val"
  | 1 => .int
  | 2 => .object "GoalHouse$Val"
  | _ => .object "GoalHouse$Val"
abbrev wsX90 : List Cond := u_ws RX9 TX9 4
theorem nmX9 : ∀ a, a < 4 → ∀ b, b < 4 → a ≠ b → (TX9 a).2.1 ≠ (TX9 b).2.1 := by decide +kernel
theorem tyX9_ok : ∀ k, k < 4 → parseFieldDescriptor (TX9 k).2.2.1 = some (tyX9 k) := by decide +kernel
def RX10 : String := "GoalHouse$Thing"
def TX10 : u_T := fun k => match k with
  | 0 => ("GoalHouse$Thing", "kind", "I", true)
  | 1 => ("GoalHouse$Thing", "self", "LGoalHouse$Val;", true)
  | 2 => ("GoalHouse$Thing", "number", "I", false)
  | 3 => ("GoalHouse$Thing", "items", "[LGoalHouse$Val;", false)
  | 4 => ("GoalHouse$Thing", "keys", "[LGoalHouse$Val;", false)
  | 5 => ("GoalHouse$Thing", "head", "I", false)
  | 6 => ("GoalHouse$Thing", "size", "I", false)
  | 7 => ("GoalHouse$Thing", "used", "I", false)
  | 8 => ("GoalHouse$Thing", "heads", "[I", false)
  | 9 => ("GoalHouse$Thing", "links", "[I", false)
  | 10 => ("GoalHouse$Thing", "other", "LGoalHouse$Val;", false)
  | 11 => ("GoalHouse$Thing", "maker", "LGoalHouse$Proc;", false)
  | 12 => ("GoalHouse$Thing", "call", "LGoalHouse$Call;", false)
  | 13 => ("GoalHouse$Thing", "frame", "LGoalHouse$Frame;", false)
  | 14 => ("GoalHouse$Thing", "waiter", "LGoalHouse$Frame;", false)
  | 15 => ("GoalHouse$Thing", "prior", "LGoalHouse$Thing;", false)
  | 16 => ("GoalHouse$Thing", "state", "I", false)
  | 17 => ("GoalHouse$Thing", "goal", "I", false)
  | _ => ("GoalHouse$Thing", "level", "I", false)
def tyX10 : Nat → FieldType := fun k => match k with
  | 0 => .int
  | 1 => .object "GoalHouse$Val"
  | 2 => .int
  | 3 => .array (.object "GoalHouse$Val")
  | 4 => .array (.object "GoalHouse$Val")
  | 5 => .int
  | 6 => .int
  | 7 => .int
  | 8 => .array .int
  | 9 => .array .int
  | 10 => .object "GoalHouse$Val"
  | 11 => .object "GoalHouse$Proc"
  | 12 => .object "GoalHouse$Call"
  | 13 => .object "GoalHouse$Frame"
  | 14 => .object "GoalHouse$Frame"
  | 15 => .object "GoalHouse$Thing"
  | 16 => .int
  | 17 => .int
  | _ => .int
abbrev wsX100 : List Cond := u_ws RX10 TX10 19
theorem nmX10 : ∀ a, a < 19 → ∀ b, b < 19 → a ≠ b → (TX10 a).2.1 ≠ (TX10 b).2.1 := by decide +kernel
theorem tyX10_ok : ∀ k, k < 19 → parseFieldDescriptor (TX10 k).2.2.1 = some (tyX10 k) := by decide +kernel
def RX11 : String := "GoalHouse$Val"
def TX11 : u_T := fun k => match k with
  | 0 => ("GoalHouse$Val", "kind", "I", true)
  | 1 => ("GoalHouse$Val", "num", "J", false)
  | 2 => ("GoalHouse$Val", "big", "[I", false)
  | 3 => ("GoalHouse$Val", "bytes", "[B", false)
  | 4 => ("GoalHouse$Val", "off", "I", false)
  | 5 => ("GoalHouse$Val", "len", "I", false)
  | 6 => ("GoalHouse$Val", "bits", "[J", false)
  | 7 => ("GoalHouse$Val", "thing", "LGoalHouse$Thing;", false)
  | 8 => ("GoalHouse$Val", "in", "LGoalHouse$Val;", false)
  | 9 => ("GoalHouse$Val", "scan", "LGoalHouse$Scan;", false)
  | _ => ("GoalHouse$Val", "proc", "LGoalHouse$Proc;", false)
def tyX11 : Nat → FieldType := fun k => match k with
  | 0 => .int
  | 1 => .long
  | 2 => .array .int
  | 3 => .array .byte
  | 4 => .int
  | 5 => .int
  | 6 => .array .long
  | 7 => .object "GoalHouse$Thing"
  | 8 => .object "GoalHouse$Val"
  | 9 => .object "GoalHouse$Scan"
  | _ => .object "GoalHouse$Proc"
abbrev wsX110 : List Cond := u_ws RX11 TX11 11
theorem nmX11 : ∀ a, a < 11 → ∀ b, b < 11 → a ≠ b → (TX11 a).2.1 ≠ (TX11 b).2.1 := by decide +kernel
theorem tyX11_ok : ∀ k, k < 11 → parseFieldDescriptor (TX11 k).2.2.1 = some (tyX11 k) := by decide +kernel
def RX12 : String := "GoalHouse"
def TX12 : u_T := fun k => match k with
  | 0 => ("GoalHouse", "tape", "[B", true)
  | 1 => ("GoalHouse", "size", "I", false)
  | 2 => ("GoalHouse", "programs", "[LGoalHouse$Program;", true)
  | 3 => ("GoalHouse", "runs", "[LGoalHouse$Run;", true)
  | 4 => ("GoalHouse", "rooms", "[LGoalHouse$Run;", true)
  | 5 => ("GoalHouse", "kit", "LGoalHouse$Kit;", true)
  | 6 => ("GoalHouse", "reader", "LGoalHouse$Reader;", true)
  | 7 => ("GoalHouse", "fault", "I", false)
  | 8 => ("GoalHouse", "faultPlace", "I", false)
  | 9 => ("GoalHouse", "shown", "[B", false)
  | _ => ("GoalHouse", "shownSize", "I", false)
def tyX12 : Nat → FieldType := fun k => match k with
  | 0 => .array .byte
  | 1 => .int
  | 2 => .array (.object "GoalHouse$Program")
  | 3 => .array (.object "GoalHouse$Run")
  | 4 => .array (.object "GoalHouse$Run")
  | 5 => .object "GoalHouse$Kit"
  | 6 => .object "GoalHouse$Reader"
  | 7 => .int
  | 8 => .int
  | 9 => .array .byte
  | _ => .int
abbrev wsX120 : List Cond := u_ws RX12 TX12 11
theorem nmX12 : ∀ a, a < 11 → ∀ b, b < 11 → a ≠ b → (TX12 a).2.1 ≠ (TX12 b).2.1 := by decide +kernel
theorem tyX12_ok : ∀ k, k < 11 → parseFieldDescriptor (TX12 k).2.2.1 = some (tyX12 k) := by decide +kernel
def RX13 : String := "GoalHouseModel"
def TX13 : u_T := fun k => match k with
  | _ => ("", "", "", false)
def tyX13 : Nat → FieldType := fun k => match k with
  | _ => .int
abbrev wsX130 : List Cond := u_ws RX13 TX13 0
theorem nmX13 : ∀ a, a < 0 → ∀ b, b < 0 → a ≠ b → (TX13 a).2.1 ≠ (TX13 b).2.1 := by decide +kernel
theorem tyX13_ok : ∀ k, k < 0 → parseFieldDescriptor (TX13 k).2.2.1 = some (tyX13 k) := by decide +kernel
def RJx145de : String := "java/io/Serializable"
def TJx145de : u_T := fun k => match k with
  | _ => ("", "", "", false)
def tyJx145de : Nat → FieldType := fun k => match k with
  | _ => .int
theorem nmJx145de : ∀ a, a < 0 → ∀ b, b < 0 → a ≠ b → (TJx145de a).2.1 ≠ (TJx145de b).2.1 := by decide +kernel
theorem tyJx145de_ok : ∀ k, k < 0 → parseFieldDescriptor (TJx145de k).2.2.1 = some (tyJx145de k) := by decide +kernel
def RJ5 : String := "java/lang/AbstractStringBuilder"
def TJ5 : u_T := fun k => match k with
  | _ => ("", "", "", false)
def tyJ5 : Nat → FieldType := fun k => match k with
  | _ => .int
theorem nmJ5 : ∀ a, a < 0 → ∀ b, b < 0 → a ≠ b → (TJ5 a).2.1 ≠ (TJ5 b).2.1 := by decide +kernel
theorem tyJ5_ok : ∀ k, k < 0 → parseFieldDescriptor (TJ5 k).2.2.1 = some (tyJ5 k) := by decide +kernel
def RJx2cfe8 : String := "java/lang/Appendable"
def TJx2cfe8 : u_T := fun k => match k with
  | _ => ("", "", "", false)
def tyJx2cfe8 : Nat → FieldType := fun k => match k with
  | _ => .int
theorem nmJx2cfe8 : ∀ a, a < 0 → ∀ b, b < 0 → a ≠ b → (TJx2cfe8 a).2.1 ≠ (TJx2cfe8 b).2.1 := by decide +kernel
theorem tyJx2cfe8_ok : ∀ k, k < 0 → parseFieldDescriptor (TJx2cfe8 k).2.2.1 = some (tyJx2cfe8 k) := by decide +kernel
def RJx9f9b0 : String := "java/lang/CharSequence"
def TJx9f9b0 : u_T := fun k => match k with
  | _ => ("", "", "", false)
def tyJx9f9b0 : Nat → FieldType := fun k => match k with
  | _ => .int
theorem nmJx9f9b0 : ∀ a, a < 0 → ∀ b, b < 0 → a ≠ b → (TJx9f9b0 a).2.1 ≠ (TJx9f9b0 b).2.1 := by decide +kernel
theorem tyJx9f9b0_ok : ∀ k, k < 0 → parseFieldDescriptor (TJx9f9b0 k).2.2.1 = some (tyJx9f9b0 k) := by decide +kernel
def RJx8e188 : String := "java/lang/Cloneable"
def TJx8e188 : u_T := fun k => match k with
  | _ => ("", "", "", false)
def tyJx8e188 : Nat → FieldType := fun k => match k with
  | _ => .int
theorem nmJx8e188 : ∀ a, a < 0 → ∀ b, b < 0 → a ≠ b → (TJx8e188 a).2.1 ≠ (TJx8e188 b).2.1 := by decide +kernel
theorem tyJx8e188_ok : ∀ k, k < 0 → parseFieldDescriptor (TJx8e188 k).2.2.1 = some (tyJx8e188 k) := by decide +kernel
def RJxb160c : String := "java/lang/Comparable"
def TJxb160c : u_T := fun k => match k with
  | _ => ("", "", "", false)
def tyJxb160c : Nat → FieldType := fun k => match k with
  | _ => .int
theorem nmJxb160c : ∀ a, a < 0 → ∀ b, b < 0 → a ≠ b → (TJxb160c a).2.1 ≠ (TJxb160c b).2.1 := by decide +kernel
theorem tyJxb160c_ok : ∀ k, k < 0 → parseFieldDescriptor (TJxb160c k).2.2.1 = some (tyJxb160c k) := by decide +kernel
def RJ6 : String := "java/lang/Integer"
def TJ6 : u_T := fun k => match k with
  | _ => ("", "", "", false)
def tyJ6 : Nat → FieldType := fun k => match k with
  | _ => .int
theorem nmJ6 : ∀ a, a < 0 → ∀ b, b < 0 → a ≠ b → (TJ6 a).2.1 ≠ (TJ6 b).2.1 := by decide +kernel
theorem tyJ6_ok : ∀ k, k < 0 → parseFieldDescriptor (TJ6 k).2.2.1 = some (tyJ6 k) := by decide +kernel
def RJxab1ab : String := "java/lang/Iterable"
def TJxab1ab : u_T := fun k => match k with
  | _ => ("", "", "", false)
def tyJxab1ab : Nat → FieldType := fun k => match k with
  | _ => .int
theorem nmJxab1ab : ∀ a, a < 0 → ∀ b, b < 0 → a ≠ b → (TJxab1ab a).2.1 ≠ (TJxab1ab b).2.1 := by decide +kernel
theorem tyJxab1ab_ok : ∀ k, k < 0 → parseFieldDescriptor (TJxab1ab k).2.2.1 = some (tyJxab1ab k) := by decide +kernel
def RJ13 : String := "java/lang/Long"
def TJ13 : u_T := fun k => match k with
  | _ => ("", "", "", false)
def tyJ13 : Nat → FieldType := fun k => match k with
  | _ => .int
theorem nmJ13 : ∀ a, a < 0 → ∀ b, b < 0 → a ≠ b → (TJ13 a).2.1 ≠ (TJ13 b).2.1 := by decide +kernel
theorem tyJ13_ok : ∀ k, k < 0 → parseFieldDescriptor (TJ13 k).2.2.1 = some (tyJ13 k) := by decide +kernel
def RJ9 : String := "java/lang/Math"
def TJ9 : u_T := fun k => match k with
  | _ => ("", "", "", false)
def tyJ9 : Nat → FieldType := fun k => match k with
  | _ => .int
theorem nmJ9 : ∀ a, a < 0 → ∀ b, b < 0 → a ≠ b → (TJ9 a).2.1 ≠ (TJ9 b).2.1 := by decide +kernel
theorem tyJ9_ok : ∀ k, k < 0 → parseFieldDescriptor (TJ9 k).2.2.1 = some (tyJ9 k) := by decide +kernel
def RJ0 : String := "java/lang/String"
def TJ0 : u_T := fun k => match k with
  | 0 => ("java/lang/String", "value", "[B", true)
  | 1 => ("java/lang/String", "coder", "B", true)
  | 2 => ("java/lang/String", "hash", "I", false)
  | _ => ("java/lang/String", "hashIsZero", "Z", false)
def tyJ0 : Nat → FieldType := fun k => match k with
  | 0 => .array .byte
  | 1 => .byte
  | 2 => .int
  | _ => .boolean
theorem nmJ0 : ∀ a, a < 4 → ∀ b, b < 4 → a ≠ b → (TJ0 a).2.1 ≠ (TJ0 b).2.1 := by decide +kernel
theorem tyJ0_ok : ∀ k, k < 4 → parseFieldDescriptor (TJ0 k).2.2.1 = some (tyJ0 k) := by decide +kernel
def RJ4 : String := "java/lang/StringBuilder"
def TJ4 : u_T := fun k => match k with
  | 0 => ("java/lang/AbstractStringBuilder", "value", "[B", false)
  | 1 => ("java/lang/AbstractStringBuilder", "coder", "B", false)
  | 2 => ("java/lang/AbstractStringBuilder", "maybeLatin1", "Z", false)
  | _ => ("java/lang/AbstractStringBuilder", "count", "I", false)
def tyJ4 : Nat → FieldType := fun k => match k with
  | 0 => .array .byte
  | 1 => .byte
  | 2 => .boolean
  | _ => .int
theorem nmJ4 : ∀ a, a < 4 → ∀ b, b < 4 → a ≠ b → (TJ4 a).2.1 ≠ (TJ4 b).2.1 := by decide +kernel
theorem tyJ4_ok : ∀ k, k < 4 → parseFieldDescriptor (TJ4 k).2.2.1 = some (tyJ4 k) := by decide +kernel
def RJ1 : String := "java/lang/StringLatin1"
def TJ1 : u_T := fun k => match k with
  | _ => ("", "", "", false)
def tyJ1 : Nat → FieldType := fun k => match k with
  | _ => .int
theorem nmJ1 : ∀ a, a < 0 → ∀ b, b < 0 → a ≠ b → (TJ1 a).2.1 ≠ (TJ1 b).2.1 := by decide +kernel
theorem tyJ1_ok : ∀ k, k < 0 → parseFieldDescriptor (TJ1 k).2.2.1 = some (tyJ1 k) := by decide +kernel
def RJ2 : String := "java/lang/StringUTF16"
def TJ2 : u_T := fun k => match k with
  | _ => ("", "", "", false)
def tyJ2 : Nat → FieldType := fun k => match k with
  | _ => .int
theorem nmJ2 : ∀ a, a < 0 → ∀ b, b < 0 → a ≠ b → (TJ2 a).2.1 ≠ (TJ2 b).2.1 := by decide +kernel
theorem tyJ2_ok : ∀ k, k < 0 → parseFieldDescriptor (TJ2 k).2.2.1 = some (tyJ2 k) := by decide +kernel
def RJ10 : String := "java/lang/System"
def TJ10 : u_T := fun k => match k with
  | _ => ("", "", "", false)
def tyJ10 : Nat → FieldType := fun k => match k with
  | _ => .int
theorem nmJ10 : ∀ a, a < 0 → ∀ b, b < 0 → a ≠ b → (TJ10 a).2.1 ≠ (TJ10 b).2.1 := by decide +kernel
theorem tyJ10_ok : ∀ k, k < 0 → parseFieldDescriptor (TJ10 k).2.2.1 = some (tyJ10 k) := by decide +kernel
def RJxfd54e : String := "java/lang/constant/Constable"
def TJxfd54e : u_T := fun k => match k with
  | _ => ("", "", "", false)
def tyJxfd54e : Nat → FieldType := fun k => match k with
  | _ => .int
theorem nmJxfd54e : ∀ a, a < 0 → ∀ b, b < 0 → a ≠ b → (TJxfd54e a).2.1 ≠ (TJxfd54e b).2.1 := by decide +kernel
theorem tyJxfd54e_ok : ∀ k, k < 0 → parseFieldDescriptor (TJxfd54e k).2.2.1 = some (tyJxfd54e k) := by decide +kernel
def RJx3cf43 : String := "java/lang/constant/ConstantDesc"
def TJx3cf43 : u_T := fun k => match k with
  | _ => ("", "", "", false)
def tyJx3cf43 : Nat → FieldType := fun k => match k with
  | _ => .int
theorem nmJx3cf43 : ∀ a, a < 0 → ∀ b, b < 0 → a ≠ b → (TJx3cf43 a).2.1 ≠ (TJx3cf43 b).2.1 := by decide +kernel
theorem tyJx3cf43_ok : ∀ k, k < 0 → parseFieldDescriptor (TJx3cf43 k).2.2.1 = some (tyJx3cf43 k) := by decide +kernel
def RJxa1e45 : String := "java/util/AbstractCollection"
def TJxa1e45 : u_T := fun k => match k with
  | _ => ("", "", "", false)
def tyJxa1e45 : Nat → FieldType := fun k => match k with
  | _ => .int
theorem nmJxa1e45 : ∀ a, a < 0 → ∀ b, b < 0 → a ≠ b → (TJxa1e45 a).2.1 ≠ (TJxa1e45 b).2.1 := by decide +kernel
theorem tyJxa1e45_ok : ∀ k, k < 0 → parseFieldDescriptor (TJxa1e45 k).2.2.1 = some (tyJxa1e45 k) := by decide +kernel
def RJxc12de : String := "java/util/AbstractList"
def TJxc12de : u_T := fun k => match k with
  | _ => ("", "", "", false)
def tyJxc12de : Nat → FieldType := fun k => match k with
  | _ => .int
theorem nmJxc12de : ∀ a, a < 0 → ∀ b, b < 0 → a ≠ b → (TJxc12de a).2.1 ≠ (TJxc12de b).2.1 := by decide +kernel
theorem tyJxc12de_ok : ∀ k, k < 0 → parseFieldDescriptor (TJxc12de k).2.2.1 = some (tyJxc12de k) := by decide +kernel
def RJx4a65c : String := "java/util/ArrayList"
def TJx4a65c : u_T := fun k => match k with
  | 0 => ("java/util/AbstractList", "modCount", "I", false)
  | 1 => ("java/util/ArrayList", "elementData", "[Ljava/lang/Object;", false)
  | _ => ("java/util/ArrayList", "size", "I", false)
def tyJx4a65c : Nat → FieldType := fun k => match k with
  | 0 => .int
  | 1 => .array (.object "java/lang/Object")
  | _ => .int
theorem nmJx4a65c : ∀ a, a < 3 → ∀ b, b < 3 → a ≠ b → (TJx4a65c a).2.1 ≠ (TJx4a65c b).2.1 := by decide +kernel
theorem tyJx4a65c_ok : ∀ k, k < 3 → parseFieldDescriptor (TJx4a65c k).2.2.1 = some (tyJx4a65c k) := by decide +kernel
def RJ7 : String := "java/util/Arrays"
def TJ7 : u_T := fun k => match k with
  | _ => ("", "", "", false)
def tyJ7 : Nat → FieldType := fun k => match k with
  | _ => .int
theorem nmJ7 : ∀ a, a < 0 → ∀ b, b < 0 → a ≠ b → (TJ7 a).2.1 ≠ (TJ7 b).2.1 := by decide +kernel
theorem tyJ7_ok : ∀ k, k < 0 → parseFieldDescriptor (TJ7 k).2.2.1 = some (tyJ7 k) := by decide +kernel
def RJx5ef63 : String := "java/util/Collection"
def TJx5ef63 : u_T := fun k => match k with
  | _ => ("", "", "", false)
def tyJx5ef63 : Nat → FieldType := fun k => match k with
  | _ => .int
theorem nmJx5ef63 : ∀ a, a < 0 → ∀ b, b < 0 → a ≠ b → (TJx5ef63 a).2.1 ≠ (TJx5ef63 b).2.1 := by decide +kernel
theorem tyJx5ef63_ok : ∀ k, k < 0 → parseFieldDescriptor (TJx5ef63 k).2.2.1 = some (tyJx5ef63 k) := by decide +kernel
def RJxbd725 : String := "java/util/List"
def TJxbd725 : u_T := fun k => match k with
  | _ => ("", "", "", false)
def tyJxbd725 : Nat → FieldType := fun k => match k with
  | _ => .int
theorem nmJxbd725 : ∀ a, a < 0 → ∀ b, b < 0 → a ≠ b → (TJxbd725 a).2.1 ≠ (TJxbd725 b).2.1 := by decide +kernel
theorem tyJxbd725_ok : ∀ k, k < 0 → parseFieldDescriptor (TJxbd725 k).2.2.1 = some (tyJxbd725 k) := by decide +kernel
def RJ15 : String := "java/util/Objects"
def TJ15 : u_T := fun k => match k with
  | _ => ("", "", "", false)
def tyJ15 : Nat → FieldType := fun k => match k with
  | _ => .int
theorem nmJ15 : ∀ a, a < 0 → ∀ b, b < 0 → a ≠ b → (TJ15 a).2.1 ≠ (TJ15 b).2.1 := by decide +kernel
theorem tyJ15_ok : ∀ k, k < 0 → parseFieldDescriptor (TJ15 k).2.2.1 = some (tyJ15 k) := by decide +kernel
def RJxf0a74 : String := "java/util/RandomAccess"
def TJxf0a74 : u_T := fun k => match k with
  | _ => ("", "", "", false)
def tyJxf0a74 : Nat → FieldType := fun k => match k with
  | _ => .int
theorem nmJxf0a74 : ∀ a, a < 0 → ∀ b, b < 0 → a ≠ b → (TJxf0a74 a).2.1 ≠ (TJxf0a74 b).2.1 := by decide +kernel
theorem tyJxf0a74_ok : ∀ k, k < 0 → parseFieldDescriptor (TJxf0a74 k).2.2.1 = some (tyJxf0a74 k) := by decide +kernel
def RJxa66e6 : String := "java/util/SequencedCollection"
def TJxa66e6 : u_T := fun k => match k with
  | _ => ("", "", "", false)
def tyJxa66e6 : Nat → FieldType := fun k => match k with
  | _ => .int
theorem nmJxa66e6 : ∀ a, a < 0 → ∀ b, b < 0 → a ≠ b → (TJxa66e6 a).2.1 ≠ (TJxa66e6 b).2.1 := by decide +kernel
theorem tyJxa66e6_ok : ∀ k, k < 0 → parseFieldDescriptor (TJxa66e6 k).2.2.1 = some (tyJxa66e6 k) := by decide +kernel
def RJ8 : String := "jdk/internal/util/ArraysSupport"
def TJ8 : u_T := fun k => match k with
  | _ => ("", "", "", false)
def tyJ8 : Nat → FieldType := fun k => match k with
  | _ => .int
theorem nmJ8 : ∀ a, a < 0 → ∀ b, b < 0 → a ≠ b → (TJ8 a).2.1 ≠ (TJ8 b).2.1 := by decide +kernel
theorem tyJ8_ok : ∀ k, k < 0 → parseFieldDescriptor (TJ8 k).2.2.1 = some (tyJ8 k) := by decide +kernel
def RJ3 : String := "jdk/internal/util/Preconditions"
def TJ3 : u_T := fun k => match k with
  | _ => ("", "", "", false)
def tyJ3 : Nat → FieldType := fun k => match k with
  | _ => .int
theorem nmJ3 : ∀ a, a < 0 → ∀ b, b < 0 → a ≠ b → (TJ3 a).2.1 ≠ (TJ3 b).2.1 := by decide +kernel
theorem tyJ3_ok : ∀ k, k < 0 → parseFieldDescriptor (TJ3 k).2.2.1 = some (tyJ3 k) := by decide +kernel
def RL : String := "GoalHouseLaw"
abbrev vwCl : List vw_C := [(RJ0, TJ0, 4), (RJ4, TJ4, 4), (RJx4a65c, TJx4a65c, 3), (RX1, TX1, 4), (RX2, TX2, 17), (RX3, TX3, 21), (RX4, TX4, 14), (RX5, TX5, 14), (RX6, TX6, 11), (RX7, TX7, 23), (RX8, TX8, 21), (RX9, TX9, 4), (RX10, TX10, 19), (RX11, TX11, 11), (RX12, TX12, 11)]
