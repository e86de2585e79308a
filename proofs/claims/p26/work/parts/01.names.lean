theorem goodIn_r {big : List Cond} (ws : List Cond) (ps : List Nat) (hp : ws = ps.filterMap (fun i => big[i]?)) (h : ws.all goodWord = true) : GoodIn big ws := by
  intro w hw
  have h1 := List.all_eq_true.mp h w hw
  rw [hp] at hw
  obtain ⟨i, -, hi⟩ := List.mem_filterMap.mp hw
  have hm : w ∈ big := by first | exact List.mem_of_getElem? hi | exact List.getElem?_mem hi
  exact ⟨hm, good_of_word h1⟩
theorem goodIn_app {big a b : List Cond} (ha : GoodIn big a) (hb : GoodIn big b) : GoodIn big (a ++ b) := fun w h => (List.mem_append.mp h).elim (ha w) (hb w)
theorem goodIn_ca {big a b : List Cond} {c : Cond} (ha : GoodIn big (c :: a)) (hb : GoodIn big b) : GoodIn big (c :: (a ++ b)) := fun w h => (List.mem_cons.mp h).elim (fun e => ha w (List.mem_cons.mpr (Or.inl e))) (fun h => (List.mem_append.mp h).elim (fun h => ha w (List.mem_cons.mpr (Or.inr h))) (hb w))
theorem goodIn_sub {big ws : List Cond} (hm : ∀ w ∈ ws, w ∈ big) (h : ws.all goodWord = true) : GoodIn big ws := fun w hw => ⟨hm w hw, good_of_word (List.all_eq_true.mp h w hw)⟩
def RX0 : String := "GoalHouse$Acts"
def TX0 : u_T := fun k => match k with
  | _ => ("", "", "", false)
def tyX0 : Nat → FieldType := fun k => match k with
  | _ => .int
abbrev wsX00 : List Cond := u_ws RX0 TX0 0
theorem nmX0 : ∀ a, a < 0 → ∀ b, b < 0 → a ≠ b → (TX0 a).2.1 ≠ (TX0 b).2.1 := by decide +kernel
theorem tyX0_ok : ∀ k, k < 0 → parseFieldDescriptor (TX0 k).2.2.1 = some (tyX0 k) := by decide +kernel
def RX1 : String := "GoalHouse$Call"
def TX1 : u_T := fun k => match k with
  | 0 => ("GoalHouse$Call", "proc", "LGoalHouse$Proc;", true)
  | 1 => ("GoalHouse$Call", "cells", "[LGoalHouse$Val;", true)
  | 2 => ("GoalHouse$Call", "depth", "I", true)
  | _ => ("GoalHouse$Call", "frame", "LGoalHouse$Frame;", true)
def tyX1 : Nat → FieldType := fun k => match k with
  | 0 => .object "GoalHouse$Proc"
  | 1 => .array (.object "GoalHouse$Val")
  | 2 => .int
  | _ => .object "GoalHouse$Frame"
abbrev wsX10 : List Cond := u_ws RX1 TX1 4
theorem nmX1 : ∀ a, a < 4 → ∀ b, b < 4 → a ≠ b → (TX1 a).2.1 ≠ (TX1 b).2.1 := by decide +kernel
theorem tyX1_ok : ∀ k, k < 4 → parseFieldDescriptor (TX1 k).2.2.1 = some (tyX1 k) := by decide +kernel
def RX2 : String := "GoalHouse$Frame"
def TX2 : u_T := fun k => match k with
  | 0 => ("GoalHouse$Frame", "node", "LGoalHouse$Node;", true)
  | 1 => ("GoalHouse$Frame", "up", "LGoalHouse$Frame;", true)
  | 2 => ("GoalHouse$Frame", "prev", "LGoalHouse$Frame;", false)
  | 3 => ("GoalHouse$Frame", "last", "LGoalHouse$Frame;", false)
  | 4 => ("GoalHouse$Frame", "inner", "LGoalHouse$Frame;", false)
  | 5 => ("GoalHouse$Frame", "call", "LGoalHouse$Call;", false)
  | 6 => ("GoalHouse$Frame", "scan", "LGoalHouse$Scan;", false)
  | 7 => ("GoalHouse$Frame", "res", "LGoalHouse$Val;", false)
  | 8 => ("GoalHouse$Frame", "a", "LGoalHouse$Val;", false)
  | 9 => ("GoalHouse$Frame", "b", "LGoalHouse$Val;", false)
  | 10 => ("GoalHouse$Frame", "state", "I", false)
  | 11 => ("GoalHouse$Frame", "more", "I", false)
  | 12 => ("GoalHouse$Frame", "i", "J", false)
  | 13 => ("GoalHouse$Frame", "j", "J", false)
  | _ => ("GoalHouse$Frame", "n", "I", false)
def tyX2 : Nat → FieldType := fun k => match k with
  | 0 => .object "GoalHouse$Node"
  | 1 => .object "GoalHouse$Frame"
  | 2 => .object "GoalHouse$Frame"
  | 3 => .object "GoalHouse$Frame"
  | 4 => .object "GoalHouse$Frame"
  | 5 => .object "GoalHouse$Call"
  | 6 => .object "GoalHouse$Scan"
  | 7 => .object "GoalHouse$Val"
  | 8 => .object "GoalHouse$Val"
  | 9 => .object "GoalHouse$Val"
  | 10 => .int
  | 11 => .int
  | 12 => .long
  | 13 => .long
  | _ => .int
abbrev wsX20 : List Cond := u_ws RX2 TX2 15
theorem nmX2 : ∀ a, a < 15 → ∀ b, b < 15 → a ≠ b → (TX2 a).2.1 ≠ (TX2 b).2.1 := by decide +kernel
theorem tyX2_ok : ∀ k, k < 15 → parseFieldDescriptor (TX2 k).2.2.1 = some (tyX2 k) := by decide +kernel
def RX3 : String := "GoalHouse$Kit"
def TX3 : u_T := fun k => match k with
  | 0 => ("GoalHouse$Kit", "nul", "LGoalHouse$Val;", true)
  | 1 => ("GoalHouse$Kit", "empty", "LGoalHouse$Val;", true)
  | 2 => ("GoalHouse$Kit", "singles", "[LGoalHouse$Val;", true)
  | 3 => ("GoalHouse$Kit", "sets", "[LGoalHouse$Val;", true)
  | 4 => ("GoalHouse$Kit", "library", "[LGoalHouse$Proc;", true)
  | 5 => ("GoalHouse$Kit", "work", "[LGoalHouse$Val;", true)
  | 6 => ("GoalHouse$Kit", "x", "[I", false)
  | 7 => ("GoalHouse$Kit", "y", "[I", false)
  | 8 => ("GoalHouse$Kit", "z", "[I", true)
  | 9 => ("GoalHouse$Kit", "image", "[B", true)
  | 10 => ("GoalHouse$Kit", "imageSize", "I", false)
  | 11 => ("GoalHouse$Kit", "args", "[LGoalHouse$Val;", false)
  | 12 => ("GoalHouse$Kit", "vals", "[LGoalHouse$Val;", false)
  | 13 => ("GoalHouse$Kit", "argCount", "I", false)
  | 14 => ("GoalHouse$Kit", "bag", "LGoalHouse$Thing;", true)
  | 15 => ("GoalHouse$Kit", "bestSign", "I", false)
  | 16 => ("GoalHouse$Kit", "called", "LGoalHouse$Val;", false)
  | 17 => ("GoalHouse$Kit", "cells", "I", false)
  | 18 => ("GoalHouse$Kit", "steps", "I", false)
  | 19 => ("GoalHouse$Kit", "breakNumber", "I", false)
  | _ => ("GoalHouse$Kit", "breakValue", "LGoalHouse$Val;", false)
def tyX3 : Nat → FieldType := fun k => match k with
  | 0 => .object "GoalHouse$Val"
  | 1 => .object "GoalHouse$Val"
  | 2 => .array (.object "GoalHouse$Val")
  | 3 => .array (.object "GoalHouse$Val")
  | 4 => .array (.object "GoalHouse$Proc")
  | 5 => .array (.object "GoalHouse$Val")
  | 6 => .array .int
  | 7 => .array .int
  | 8 => .array .int
  | 9 => .array .byte
  | 10 => .int
  | 11 => .array (.object "GoalHouse$Val")
  | 12 => .array (.object "GoalHouse$Val")
  | 13 => .int
  | 14 => .object "GoalHouse$Thing"
  | 15 => .int
  | 16 => .object "GoalHouse$Val"
  | 17 => .int
  | 18 => .int
  | 19 => .int
  | _ => .object "GoalHouse$Val"
abbrev wsX30 : List Cond := u_ws RX3 TX3 21
theorem nmX3 : ∀ a, a < 21 → ∀ b, b < 21 → a ≠ b → (TX3 a).2.1 ≠ (TX3 b).2.1 := by decide +kernel
theorem tyX3_ok : ∀ k, k < 21 → parseFieldDescriptor (TX3 k).2.2.1 = some (tyX3 k) := by decide +kernel
abbrev cX3_init : ByteArray := prog_5_method_1_code
def yX3_init : MethodName := ⟨RX3, "<init>", "()V"⟩
abbrev cX3_range : ByteArray := prog_5_method_2_code
def yX3_range : MethodName := ⟨RX3, "range", "(IIII)LGoalHouse$Val;"⟩
abbrev cX3_emptySet : ByteArray := prog_5_method_3_code
def yX3_emptySet : MethodName := ⟨RX3, "emptySet", "()LGoalHouse$Val;"⟩
def RX4 : String := "GoalHouse$Node"
def TX4 : u_T := fun k => match k with
  | 0 => ("GoalHouse$Node", "kind", "I", true)
  | 1 => ("GoalHouse$Node", "op", "I", false)
  | 2 => ("GoalHouse$Node", "place", "I", true)
  | 3 => ("GoalHouse$Node", "proc", "I", false)
  | 4 => ("GoalHouse$Node", "id", "I", false)
  | 5 => ("GoalHouse$Node", "kid", "LGoalHouse$Node;", false)
  | 6 => ("GoalHouse$Node", "tail", "LGoalHouse$Node;", false)
  | 7 => ("GoalHouse$Node", "next", "LGoalHouse$Node;", false)
  | 8 => ("GoalHouse$Node", "kids", "I", false)
  | 9 => ("GoalHouse$Node", "name", "Ljava/lang/String;", false)
  | 10 => ("GoalHouse$Node", "lit", "LGoalHouse$Val;", false)
  | 11 => ("GoalHouse$Node", "scope", "I", false)
  | 12 => ("GoalHouse$Node", "slot", "I", false)
  | _ => ("GoalHouse$Node", "loop", "LGoalHouse$Node;", false)
def tyX4 : Nat → FieldType := fun k => match k with
  | 0 => .int
  | 1 => .int
  | 2 => .int
  | 3 => .int
  | 4 => .int
  | 5 => .object "GoalHouse$Node"
  | 6 => .object "GoalHouse$Node"
  | 7 => .object "GoalHouse$Node"
  | 8 => .int
  | 9 => .object "java/lang/String"
  | 10 => .object "GoalHouse$Val"
  | 11 => .int
  | 12 => .int
  | _ => .object "GoalHouse$Node"
abbrev wsX40 : List Cond := u_ws RX4 TX4 14
theorem nmX4 : ∀ a, a < 14 → ∀ b, b < 14 → a ≠ b → (TX4 a).2.1 ≠ (TX4 b).2.1 := by decide +kernel
theorem tyX4_ok : ∀ k, k < 14 → parseFieldDescriptor (TX4 k).2.2.1 = some (tyX4 k) := by decide +kernel
def RX5 : String := "GoalHouse$Proc"
def TX5 : u_T := fun k => match k with
  | 0 => ("GoalHouse$Proc", "name", "Ljava/lang/String;", true)
  | 1 => ("GoalHouse$Proc", "kind", "I", true)
  | 2 => ("GoalHouse$Proc", "index", "I", false)
  | 3 => ("GoalHouse$Proc", "place", "I", false)
  | 4 => ("GoalHouse$Proc", "names", "Ljava/util/ArrayList;", true)
  | 5 => ("GoalHouse$Proc", "statics", "Ljava/util/ArrayList;", true)
  | 6 => ("GoalHouse$Proc", "params", "I", false)
  | 7 => ("GoalHouse$Proc", "told", "I", false)
  | 8 => ("GoalHouse$Proc", "rest", "Z", false)
  | 9 => ("GoalHouse$Proc", "staticBase", "I", false)
  | 10 => ("GoalHouse$Proc", "first", "LGoalHouse$Node;", false)
  | 11 => ("GoalHouse$Proc", "body", "LGoalHouse$Node;", false)
  | _ => ("GoalHouse$Proc", "val", "LGoalHouse$Val;", false)
def tyX5 : Nat → FieldType := fun k => match k with
  | 0 => .object "java/lang/String"
  | 1 => .int
  | 2 => .int
  | 3 => .int
  | 4 => .object "java/util/ArrayList"
  | 5 => .object "java/util/ArrayList"
  | 6 => .int
  | 7 => .int
  | 8 => .boolean
  | 9 => .int
  | 10 => .object "GoalHouse$Node"
  | 11 => .object "GoalHouse$Node"
  | _ => .object "GoalHouse$Val"
abbrev wsX50 : List Cond := u_ws RX5 TX5 13
theorem nmX5 : ∀ a, a < 13 → ∀ b, b < 13 → a ≠ b → (TX5 a).2.1 ≠ (TX5 b).2.1 := by decide +kernel
theorem tyX5_ok : ∀ k, k < 13 → parseFieldDescriptor (TX5 k).2.2.1 = some (tyX5 k) := by decide +kernel
abbrev cX5_init : ByteArray := prog_7_method_1_code
def yX5_init : MethodName := ⟨RX5, "<init>", "(Ljava/lang/String;I)V"⟩
abbrev cX5_make : ByteArray := prog_7_method_2_code
def yX5_make : MethodName := ⟨RX5, "make", "(Ljava/lang/String;II)LGoalHouse$Proc;"⟩
def RX6 : String := "GoalHouse$Program"
def TX6 : u_T := fun k => match k with
  | 0 => ("GoalHouse$Program", "nodes", "Ljava/util/ArrayList;", true)
  | 1 => ("GoalHouse$Program", "procs", "Ljava/util/ArrayList;", true)
  | 2 => ("GoalHouse$Program", "records", "Ljava/util/ArrayList;", true)
  | 3 => ("GoalHouse$Program", "globals", "Ljava/util/ArrayList;", true)
  | 4 => ("GoalHouse$Program", "items", "Ljava/util/ArrayList;", true)
  | 5 => ("GoalHouse$Program", "written", "Ljava/lang/StringBuilder;", true)
  | 6 => ("GoalHouse$Program", "staticCount", "I", false)
  | 7 => ("GoalHouse$Program", "glue", "Z", false)
  | 8 => ("GoalHouse$Program", "todo", "[LGoalHouse$Node;", false)
  | 9 => ("GoalHouse$Program", "ways", "[I", false)
  | _ => ("GoalHouse$Program", "open", "I", false)
def tyX6 : Nat → FieldType := fun k => match k with
  | 0 => .object "java/util/ArrayList"
  | 1 => .object "java/util/ArrayList"
  | 2 => .object "java/util/ArrayList"
  | 3 => .object "java/util/ArrayList"
  | 4 => .object "java/util/ArrayList"
  | 5 => .object "java/lang/StringBuilder"
  | 6 => .int
  | 7 => .boolean
  | 8 => .array (.object "GoalHouse$Node")
  | 9 => .array .int
  | _ => .int
abbrev wsX60 : List Cond := u_ws RX6 TX6 11
theorem nmX6 : ∀ a, a < 11 → ∀ b, b < 11 → a ≠ b → (TX6 a).2.1 ≠ (TX6 b).2.1 := by decide +kernel
theorem tyX6_ok : ∀ k, k < 11 → parseFieldDescriptor (TX6 k).2.2.1 = some (tyX6 k) := by decide +kernel
def RX7 : String := "GoalHouse$Reader"
def TX7 : u_T := fun k => match k with
  | 0 => ("GoalHouse$Reader", "kit", "LGoalHouse$Kit;", false)
  | 1 => ("GoalHouse$Reader", "text", "[B", false)
  | 2 => ("GoalHouse$Reader", "size", "I", false)
  | 3 => ("GoalHouse$Reader", "at", "I", false)
  | 4 => ("GoalHouse$Reader", "kind", "I", false)
  | 5 => ("GoalHouse$Reader", "id", "I", false)
  | 6 => ("GoalHouse$Reader", "place", "I", false)
  | 7 => ("GoalHouse$Reader", "semi", "Z", false)
  | 8 => ("GoalHouse$Reader", "name", "Ljava/lang/String;", false)
  | 9 => ("GoalHouse$Reader", "lit", "LGoalHouse$Val;", false)
  | 10 => ("GoalHouse$Reader", "fault", "I", false)
  | 11 => ("GoalHouse$Reader", "faultAt", "I", false)
  | 12 => ("GoalHouse$Reader", "program", "LGoalHouse$Program;", false)
  | 13 => ("GoalHouse$Reader", "proc", "LGoalHouse$Proc;", false)
  | 14 => ("GoalHouse$Reader", "state", "I", false)
  | 15 => ("GoalHouse$Reader", "types", "[I", true)
  | 16 => ("GoalHouse$Reader", "nodes", "[LGoalHouse$Node;", true)
  | 17 => ("GoalHouse$Reader", "loops", "[LGoalHouse$Node;", true)
  | 18 => ("GoalHouse$Reader", "top", "I", false)
  | 19 => ("GoalHouse$Reader", "open", "I", false)
  | 20 => ("GoalHouse$Reader", "left", "LGoalHouse$Node;", false)
  | 21 => ("GoalHouse$Reader", "loop", "LGoalHouse$Node;", false)
  | _ => ("GoalHouse$Reader", "barred", "I", false)
def tyX7 : Nat → FieldType := fun k => match k with
  | 0 => .object "GoalHouse$Kit"
  | 1 => .array .byte
  | 2 => .int
  | 3 => .int
  | 4 => .int
  | 5 => .int
  | 6 => .int
  | 7 => .boolean
  | 8 => .object "java/lang/String"
  | 9 => .object "GoalHouse$Val"
  | 10 => .int
  | 11 => .int
  | 12 => .object "GoalHouse$Program"
  | 13 => .object "GoalHouse$Proc"
  | 14 => .int
  | 15 => .array .int
  | 16 => .array (.object "GoalHouse$Node")
  | 17 => .array (.object "GoalHouse$Node")
  | 18 => .int
  | 19 => .int
  | 20 => .object "GoalHouse$Node"
  | 21 => .object "GoalHouse$Node"
  | _ => .int
abbrev wsX70 : List Cond := u_ws RX7 TX7 23
theorem nmX7 : ∀ a, a < 23 → ∀ b, b < 23 → a ≠ b → (TX7 a).2.1 ≠ (TX7 b).2.1 := by decide +kernel
theorem tyX7_ok : ∀ k, k < 23 → parseFieldDescriptor (TX7 k).2.2.1 = some (tyX7 k) := by decide +kernel
def RX8 : String := "GoalHouse$Run"
def TX8 : u_T := fun k => match k with
  | 0 => ("GoalHouse$Run", "kit", "LGoalHouse$Kit;", true)
  | 1 => ("GoalHouse$Run", "program", "LGoalHouse$Program;", false)
  | 2 => ("GoalHouse$Run", "told", "[I", true)
  | 3 => ("GoalHouse$Run", "seed", "I", false)
  | 4 => ("GoalHouse$Run", "input", "[B", false)
  | 5 => ("GoalHouse$Run", "out", "[B", true)
  | 6 => ("GoalHouse$Run", "events", "[I", true)
  | 7 => ("GoalHouse$Run", "counts", "[I", true)
  | 8 => ("GoalHouse$Run", "globals", "[LGoalHouse$Val;", false)
  | 9 => ("GoalHouse$Run", "statics", "[LGoalHouse$Val;", false)
  | 10 => ("GoalHouse$Run", "initiated", "[Z", false)
  | 11 => ("GoalHouse$Run", "things", "Ljava/util/ArrayList;", true)
  | 12 => ("GoalHouse$Run", "made", "[B", false)
  | 13 => ("GoalHouse$Run", "base", "LGoalHouse$Scan;", false)
  | 14 => ("GoalHouse$Run", "errorNumber", "LGoalHouse$Val;", false)
  | 15 => ("GoalHouse$Run", "errorValue", "LGoalHouse$Val;", false)
  | 16 => ("GoalHouse$Run", "mode", "I", false)
  | 17 => ("GoalHouse$Run", "cur", "LGoalHouse$Frame;", false)
  | 18 => ("GoalHouse$Run", "active", "LGoalHouse$Thing;", false)
  | 19 => ("GoalHouse$Run", "goalFrame", "LGoalHouse$Frame;", false)
  | _ => ("GoalHouse$Run", "result", "LGoalHouse$Val;", false)
def tyX8 : Nat → FieldType := fun k => match k with
  | 0 => .object "GoalHouse$Kit"
  | 1 => .object "GoalHouse$Program"
  | 2 => .array .int
  | 3 => .int
  | 4 => .array .byte
  | 5 => .array .byte
  | 6 => .array .int
  | 7 => .array .int
  | 8 => .array (.object "GoalHouse$Val")
  | 9 => .array (.object "GoalHouse$Val")
  | 10 => .array .boolean
  | 11 => .object "java/util/ArrayList"
  | 12 => .array .byte
  | 13 => .object "GoalHouse$Scan"
  | 14 => .object "GoalHouse$Val"
  | 15 => .object "GoalHouse$Val"
  | 16 => .int
  | 17 => .object "GoalHouse$Frame"
  | 18 => .object "GoalHouse$Thing"
  | 19 => .object "GoalHouse$Frame"
  | _ => .object "GoalHouse$Val"
abbrev wsX80 : List Cond := u_ws RX8 TX8 21
theorem nmX8 : ∀ a, a < 21 → ∀ b, b < 21 → a ≠ b → (TX8 a).2.1 ≠ (TX8 b).2.1 := by decide +kernel
theorem tyX8_ok : ∀ k, k < 21 → parseFieldDescriptor (TX8 k).2.2.1 = some (tyX8 k) := by decide +kernel
def RX9 : String := "GoalHouse$Scan"
def TX9 : u_T := fun k => match k with
  | 0 => ("GoalHouse$Scan", "subject", "LGoalHouse$Val;", false)
  | 1 => ("GoalHouse$Scan", "pos", "I", false)
  | 2 => ("GoalHouse$Scan", "subjectCell", "LGoalHouse$Val;", false)
  | _ => ("GoalHouse$Scan", "posCell", "LGoalHouse$Val;", false)
def tyX9 : Nat → FieldType := fun k => match k with
  | 0 => .object "GoalHouse$Val"
  | 1 => .int
  | 2 => .object "GoalHouse$Val"
  | _ => .object "GoalHouse$Val"
abbrev wsX90 : List Cond := u_ws RX9 TX9 4
theorem nmX9 : ∀ a, a < 4 → ∀ b, b < 4 → a ≠ b → (TX9 a).2.1 ≠ (TX9 b).2.1 := by decide +kernel
theorem tyX9_ok : ∀ k, k < 4 → parseFieldDescriptor (TX9 k).2.2.1 = some (tyX9 k) := by decide +kernel
def RX10 : String := "GoalHouse$Thing"
def TX10 : u_T := fun k => match k with
  | 0 => ("GoalHouse$Thing", "kind", "I", true)
  | 1 => ("GoalHouse$Thing", "self", "LGoalHouse$Val;", true)
  | 2 => ("GoalHouse$Thing", "number", "I", false)
  | 3 => ("GoalHouse$Thing", "items", "[LGoalHouse$Val;", false)
  | 4 => ("GoalHouse$Thing", "keys", "[LGoalHouse$Val;", false)
  | 5 => ("GoalHouse$Thing", "head", "I", false)
  | 6 => ("GoalHouse$Thing", "size", "I", false)
  | 7 => ("GoalHouse$Thing", "used", "I", false)
  | 8 => ("GoalHouse$Thing", "heads", "[I", false)
  | 9 => ("GoalHouse$Thing", "links", "[I", false)
  | 10 => ("GoalHouse$Thing", "other", "LGoalHouse$Val;", false)
  | 11 => ("GoalHouse$Thing", "maker", "LGoalHouse$Proc;", false)
  | 12 => ("GoalHouse$Thing", "call", "LGoalHouse$Call;", false)
  | 13 => ("GoalHouse$Thing", "frame", "LGoalHouse$Frame;", false)
  | 14 => ("GoalHouse$Thing", "waiter", "LGoalHouse$Frame;", false)
  | 15 => ("GoalHouse$Thing", "prior", "LGoalHouse$Thing;", false)
  | 16 => ("GoalHouse$Thing", "state", "I", false)
  | 17 => ("GoalHouse$Thing", "goal", "I", false)
  | _ => ("GoalHouse$Thing", "level", "I", false)
def tyX10 : Nat → FieldType := fun k => match k with
  | 0 => .int
  | 1 => .object "GoalHouse$Val"
  | 2 => .int
  | 3 => .array (.object "GoalHouse$Val")
  | 4 => .array (.object "GoalHouse$Val")
  | 5 => .int
  | 6 => .int
  | 7 => .int
  | 8 => .array .int
  | 9 => .array .int
  | 10 => .object "GoalHouse$Val"
  | 11 => .object "GoalHouse$Proc"
  | 12 => .object "GoalHouse$Call"
  | 13 => .object "GoalHouse$Frame"
  | 14 => .object "GoalHouse$Frame"
  | 15 => .object "GoalHouse$Thing"
  | 16 => .int
  | 17 => .int
  | _ => .int
abbrev wsX100 : List Cond := u_ws RX10 TX10 19
theorem nmX10 : ∀ a, a < 19 → ∀ b, b < 19 → a ≠ b → (TX10 a).2.1 ≠ (TX10 b).2.1 := by decide +kernel
theorem tyX10_ok : ∀ k, k < 19 → parseFieldDescriptor (TX10 k).2.2.1 = some (tyX10 k) := by decide +kernel
abbrev cX10_init : ByteArray := prog_12_method_1_code
def yX10_init : MethodName := ⟨RX10, "<init>", "(ILGoalHouse$Val;)V"⟩
abbrev cX10_make : ByteArray := prog_12_method_2_code
def yX10_make : MethodName := ⟨RX10, "make", "(I)LGoalHouse$Thing;"⟩
def RX11 : String := "GoalHouse$Val"
def TX11 : u_T := fun k => match k with
  | 0 => ("GoalHouse$Val", "kind", "I", true)
  | 1 => ("GoalHouse$Val", "num", "J", false)
  | 2 => ("GoalHouse$Val", "big", "[I", false)
  | 3 => ("GoalHouse$Val", "bytes", "[B", false)
  | 4 => ("GoalHouse$Val", "off", "I", false)
  | 5 => ("GoalHouse$Val", "len", "I", false)
  | 6 => ("GoalHouse$Val", "bits", "[J", false)
  | 7 => ("GoalHouse$Val", "thing", "LGoalHouse$Thing;", false)
  | 8 => ("GoalHouse$Val", "in", "LGoalHouse$Val;", false)
  | 9 => ("GoalHouse$Val", "scan", "LGoalHouse$Scan;", false)
  | _ => ("GoalHouse$Val", "proc", "LGoalHouse$Proc;", false)
def tyX11 : Nat → FieldType := fun k => match k with
  | 0 => .int
  | 1 => .long
  | 2 => .array .int
  | 3 => .array .byte
  | 4 => .int
  | 5 => .int
  | 6 => .array .long
  | 7 => .object "GoalHouse$Thing"
  | 8 => .object "GoalHouse$Val"
  | 9 => .object "GoalHouse$Scan"
  | _ => .object "GoalHouse$Proc"
abbrev wsX110 : List Cond := u_ws RX11 TX11 11
theorem nmX11 : ∀ a, a < 11 → ∀ b, b < 11 → a ≠ b → (TX11 a).2.1 ≠ (TX11 b).2.1 := by decide +kernel
theorem tyX11_ok : ∀ k, k < 11 → parseFieldDescriptor (TX11 k).2.2.1 = some (tyX11 k) := by decide +kernel
abbrev cX11_init : ByteArray := prog_13_method_1_code
def yX11_init : MethodName := ⟨RX11, "<init>", "(I)V"⟩
abbrev cX11_text : ByteArray := prog_13_method_3_code
def yX11_text : MethodName := ⟨RX11, "text", "([BII)LGoalHouse$Val;"⟩
abbrev cX11_put : ByteArray := prog_13_method_8_code
def yX11_put : MethodName := ⟨RX11, "put", "(I)V"⟩
def RX12 : String := "GoalHouse"
def TX12 : u_T := fun k => match k with
  | 0 => ("GoalHouse", "tape", "[B", true)
  | 1 => ("GoalHouse", "size", "I", false)
  | 2 => ("GoalHouse", "programs", "[LGoalHouse$Program;", true)
  | 3 => ("GoalHouse", "runs", "[LGoalHouse$Run;", true)
  | 4 => ("GoalHouse", "rooms", "[LGoalHouse$Run;", true)
  | 5 => ("GoalHouse", "kit", "LGoalHouse$Kit;", true)
  | 6 => ("GoalHouse", "reader", "LGoalHouse$Reader;", true)
  | 7 => ("GoalHouse", "fault", "I", false)
  | 8 => ("GoalHouse", "faultPlace", "I", false)
  | 9 => ("GoalHouse", "shown", "[B", false)
  | _ => ("GoalHouse", "shownSize", "I", false)
def tyX12 : Nat → FieldType := fun k => match k with
  | 0 => .array .byte
  | 1 => .int
  | 2 => .array (.object "GoalHouse$Program")
  | 3 => .array (.object "GoalHouse$Run")
  | 4 => .array (.object "GoalHouse$Run")
  | 5 => .object "GoalHouse$Kit"
  | 6 => .object "GoalHouse$Reader"
  | 7 => .int
  | 8 => .int
  | 9 => .array .byte
  | _ => .int
abbrev wsX120 : List Cond := u_ws RX12 TX12 11
theorem nmX12 : ∀ a, a < 11 → ∀ b, b < 11 → a ≠ b → (TX12 a).2.1 ≠ (TX12 b).2.1 := by decide +kernel
theorem tyX12_ok : ∀ k, k < 11 → parseFieldDescriptor (TX12 k).2.2.1 = some (tyX12 k) := by decide +kernel
abbrev cX12_wordOf : ByteArray := prog_1_method_31_code
def yX12_wordOf : MethodName := ⟨RX12, "wordOf", "(Ljava/lang/String;I)Ljava/lang/String;"⟩
def RX13 : String := "GoalHouseModel"
def TX13 : u_T := fun k => match k with
  | _ => ("", "", "", false)
def tyX13 : Nat → FieldType := fun k => match k with
  | _ => .int
abbrev wsX130 : List Cond := u_ws RX13 TX13 0
theorem nmX13 : ∀ a, a < 0 → ∀ b, b < 0 → a ≠ b → (TX13 a).2.1 ≠ (TX13 b).2.1 := by decide +kernel
theorem tyX13_ok : ∀ k, k < 0 → parseFieldDescriptor (TX13 k).2.2.1 = some (tyX13 k) := by decide +kernel
def RJx145de : String := "java/io/Serializable"
def TJx145de : u_T := fun k => match k with
  | _ => ("", "", "", false)
def tyJx145de : Nat → FieldType := fun k => match k with
  | _ => .int
theorem nmJx145de : ∀ a, a < 0 → ∀ b, b < 0 → a ≠ b → (TJx145de a).2.1 ≠ (TJx145de b).2.1 := by decide +kernel
theorem tyJx145de_ok : ∀ k, k < 0 → parseFieldDescriptor (TJx145de k).2.2.1 = some (tyJx145de k) := by decide +kernel
def RJ5 : String := "java/lang/AbstractStringBuilder"
def TJ5 : u_T := fun k => match k with
  | _ => ("", "", "", false)
def tyJ5 : Nat → FieldType := fun k => match k with
  | _ => .int
theorem nmJ5 : ∀ a, a < 0 → ∀ b, b < 0 → a ≠ b → (TJ5 a).2.1 ≠ (TJ5 b).2.1 := by decide +kernel
theorem tyJ5_ok : ∀ k, k < 0 → parseFieldDescriptor (TJ5 k).2.2.1 = some (tyJ5 k) := by decide +kernel
def RJx2cfe8 : String := "java/lang/Appendable"
def TJx2cfe8 : u_T := fun k => match k with
  | _ => ("", "", "", false)
def tyJx2cfe8 : Nat → FieldType := fun k => match k with
  | _ => .int
theorem nmJx2cfe8 : ∀ a, a < 0 → ∀ b, b < 0 → a ≠ b → (TJx2cfe8 a).2.1 ≠ (TJx2cfe8 b).2.1 := by decide +kernel
theorem tyJx2cfe8_ok : ∀ k, k < 0 → parseFieldDescriptor (TJx2cfe8 k).2.2.1 = some (tyJx2cfe8 k) := by decide +kernel
def RJx9f9b0 : String := "java/lang/CharSequence"
def TJx9f9b0 : u_T := fun k => match k with
  | _ => ("", "", "", false)
def tyJx9f9b0 : Nat → FieldType := fun k => match k with
  | _ => .int
theorem nmJx9f9b0 : ∀ a, a < 0 → ∀ b, b < 0 → a ≠ b → (TJx9f9b0 a).2.1 ≠ (TJx9f9b0 b).2.1 := by decide +kernel
theorem tyJx9f9b0_ok : ∀ k, k < 0 → parseFieldDescriptor (TJx9f9b0 k).2.2.1 = some (tyJx9f9b0 k) := by decide +kernel
def RJx8e188 : String := "java/lang/Cloneable"
def TJx8e188 : u_T := fun k => match k with
  | _ => ("", "", "", false)
def tyJx8e188 : Nat → FieldType := fun k => match k with
  | _ => .int
theorem nmJx8e188 : ∀ a, a < 0 → ∀ b, b < 0 → a ≠ b → (TJx8e188 a).2.1 ≠ (TJx8e188 b).2.1 := by decide +kernel
theorem tyJx8e188_ok : ∀ k, k < 0 → parseFieldDescriptor (TJx8e188 k).2.2.1 = some (tyJx8e188 k) := by decide +kernel
def RJxb160c : String := "java/lang/Comparable"
def TJxb160c : u_T := fun k => match k with
  | _ => ("", "", "", false)
def tyJxb160c : Nat → FieldType := fun k => match k with
  | _ => .int
theorem nmJxb160c : ∀ a, a < 0 → ∀ b, b < 0 → a ≠ b → (TJxb160c a).2.1 ≠ (TJxb160c b).2.1 := by decide +kernel
theorem tyJxb160c_ok : ∀ k, k < 0 → parseFieldDescriptor (TJxb160c k).2.2.1 = some (tyJxb160c k) := by decide +kernel
def RJ6 : String := "java/lang/Integer"
def TJ6 : u_T := fun k => match k with
  | _ => ("", "", "", false)
def tyJ6 : Nat → FieldType := fun k => match k with
  | _ => .int
theorem nmJ6 : ∀ a, a < 0 → ∀ b, b < 0 → a ≠ b → (TJ6 a).2.1 ≠ (TJ6 b).2.1 := by decide +kernel
theorem tyJ6_ok : ∀ k, k < 0 → parseFieldDescriptor (TJ6 k).2.2.1 = some (tyJ6 k) := by decide +kernel
def RJxab1ab : String := "java/lang/Iterable"
def TJxab1ab : u_T := fun k => match k with
  | _ => ("", "", "", false)
def tyJxab1ab : Nat → FieldType := fun k => match k with
  | _ => .int
theorem nmJxab1ab : ∀ a, a < 0 → ∀ b, b < 0 → a ≠ b → (TJxab1ab a).2.1 ≠ (TJxab1ab b).2.1 := by decide +kernel
theorem tyJxab1ab_ok : ∀ k, k < 0 → parseFieldDescriptor (TJxab1ab k).2.2.1 = some (tyJxab1ab k) := by decide +kernel
def RJ13 : String := "java/lang/Long"
def TJ13 : u_T := fun k => match k with
  | _ => ("", "", "", false)
def tyJ13 : Nat → FieldType := fun k => match k with
  | _ => .int
theorem nmJ13 : ∀ a, a < 0 → ∀ b, b < 0 → a ≠ b → (TJ13 a).2.1 ≠ (TJ13 b).2.1 := by decide +kernel
theorem tyJ13_ok : ∀ k, k < 0 → parseFieldDescriptor (TJ13 k).2.2.1 = some (tyJ13 k) := by decide +kernel
def RJ9 : String := "java/lang/Math"
def TJ9 : u_T := fun k => match k with
  | _ => ("", "", "", false)
def tyJ9 : Nat → FieldType := fun k => match k with
  | _ => .int
theorem nmJ9 : ∀ a, a < 0 → ∀ b, b < 0 → a ≠ b → (TJ9 a).2.1 ≠ (TJ9 b).2.1 := by decide +kernel
theorem tyJ9_ok : ∀ k, k < 0 → parseFieldDescriptor (TJ9 k).2.2.1 = some (tyJ9 k) := by decide +kernel
def RJ0 : String := "java/lang/String"
def TJ0 : u_T := fun k => match k with
  | 0 => ("java/lang/String", "value", "[B", true)
  | 1 => ("java/lang/String", "coder", "B", true)
  | 2 => ("java/lang/String", "hash", "I", false)
  | _ => ("java/lang/String", "hashIsZero", "Z", false)
def tyJ0 : Nat → FieldType := fun k => match k with
  | 0 => .array .byte
  | 1 => .byte
  | 2 => .int
  | _ => .boolean
abbrev wsJ00 : List Cond := u_ws RJ0 TJ0 4
theorem nmJ0 : ∀ a, a < 4 → ∀ b, b < 4 → a ≠ b → (TJ0 a).2.1 ≠ (TJ0 b).2.1 := by decide +kernel
theorem tyJ0_ok : ∀ k, k < 4 → parseFieldDescriptor (TJ0 k).2.2.1 = some (tyJ0 k) := by decide +kernel
abbrev cJ0_length_8abf5 : ByteArray := prog_26_method_54_code
def yJ0_length_8abf5 : MethodName := ⟨RJ0, "length", "()I"⟩
abbrev cJ0_charAt_5068e : ByteArray := prog_26_method_56_code
def yJ0_charAt_5068e : MethodName := ⟨RJ0, "charAt", "(I)C"⟩
abbrev cJ0_substring_37a41 : ByteArray := prog_26_method_92_code
def yJ0_substring_37a41 : MethodName := ⟨RJ0, "substring", "(II)Ljava/lang/String;"⟩
abbrev cJ0_init_031fb : ByteArray := prog_26_method_151_code
def yJ0_init_031fb : MethodName := ⟨RJ0, "<init>", "([BB)V"⟩
abbrev cJ0_coder_7d493 : ByteArray := prog_26_method_152_code
def yJ0_coder_7d493 : MethodName := ⟨RJ0, "coder", "()B"⟩
abbrev cJ0_isLatin1_aae02 : ByteArray := prog_26_method_154_code
def yJ0_isLatin1_aae02 : MethodName := ⟨RJ0, "isLatin1", "()Z"⟩
abbrev cJ0_checkIndex_df160 : ByteArray := prog_26_method_155_code
def yJ0_checkIndex_df160 : MethodName := ⟨RJ0, "checkIndex", "(II)V"⟩
abbrev cJ0_checkBoundsOffCount_cabcc : ByteArray := prog_26_method_157_code
def yJ0_checkBoundsOffCount_cabcc : MethodName := ⟨RJ0, "checkBoundsOffCount", "(III)I"⟩
abbrev cJ0_checkBoundsBeginEnd_23922 : ByteArray := prog_26_method_158_code
def yJ0_checkBoundsBeginEnd_23922 : MethodName := ⟨RJ0, "checkBoundsBeginEnd", "(III)V"⟩
def RJ4 : String := "java/lang/StringBuilder"
def TJ4 : u_T := fun k => match k with
  | 0 => ("java/lang/AbstractStringBuilder", "value", "[B", false)
  | 1 => ("java/lang/AbstractStringBuilder", "coder", "B", false)
  | 2 => ("java/lang/AbstractStringBuilder", "maybeLatin1", "Z", false)
  | _ => ("java/lang/AbstractStringBuilder", "count", "I", false)
def tyJ4 : Nat → FieldType := fun k => match k with
  | 0 => .array .byte
  | 1 => .byte
  | 2 => .boolean
  | _ => .int
theorem nmJ4 : ∀ a, a < 4 → ∀ b, b < 4 → a ≠ b → (TJ4 a).2.1 ≠ (TJ4 b).2.1 := by decide +kernel
theorem tyJ4_ok : ∀ k, k < 4 → parseFieldDescriptor (TJ4 k).2.2.1 = some (tyJ4 k) := by decide +kernel
def RJ1 : String := "java/lang/StringLatin1"
def TJ1 : u_T := fun k => match k with
  | _ => ("", "", "", false)
def tyJ1 : Nat → FieldType := fun k => match k with
  | _ => .int
theorem nmJ1 : ∀ a, a < 0 → ∀ b, b < 0 → a ≠ b → (TJ1 a).2.1 ≠ (TJ1 b).2.1 := by decide +kernel
theorem tyJ1_ok : ∀ k, k < 0 → parseFieldDescriptor (TJ1 k).2.2.1 = some (tyJ1 k) := by decide +kernel
abbrev cJ1_charAt_3b067 : ByteArray := prog_28_method_2_code
def yJ1_charAt_3b067 : MethodName := ⟨RJ1, "charAt", "([BI)C"⟩
abbrev cJ1_newString_b4f7a : ByteArray := prog_28_method_47_code
def yJ1_newString_b4f7a : MethodName := ⟨RJ1, "newString", "([BII)Ljava/lang/String;"⟩
def RJ2 : String := "java/lang/StringUTF16"
def TJ2 : u_T := fun k => match k with
  | _ => ("", "", "", false)
def tyJ2 : Nat → FieldType := fun k => match k with
  | _ => .int
theorem nmJ2 : ∀ a, a < 0 → ∀ b, b < 0 → a ≠ b → (TJ2 a).2.1 ≠ (TJ2 b).2.1 := by decide +kernel
theorem tyJ2_ok : ∀ k, k < 0 → parseFieldDescriptor (TJ2 k).2.2.1 = some (tyJ2 k) := by decide +kernel
abbrev cJ2_newBytesLength_0f7a4 : ByteArray := prog_29_method_3_code
def yJ2_newBytesLength_0f7a4 : MethodName := ⟨RJ2, "newBytesLength", "(I)I"⟩
abbrev cJ2_getChar_3b067 : ByteArray := prog_29_method_5_code
def yJ2_getChar_3b067 : MethodName := ⟨RJ2, "getChar", "([BI)C"⟩
abbrev cJ2_length_9d52b : ByteArray := prog_29_method_6_code
def yJ2_length_9d52b : MethodName := ⟨RJ2, "length", "([B)I"⟩
abbrev cJ2_coderFromArrayLen_85cad : ByteArray := prog_29_method_15_code
def yJ2_coderFromArrayLen_85cad : MethodName := ⟨RJ2, "coderFromArrayLen", "([BI)B"⟩
abbrev cJ2_compress_39247 : ByteArray := prog_29_method_17_code
def yJ2_compress_39247 : MethodName := ⟨RJ2, "compress", "([BII)[B"⟩
abbrev cJ2_compress_5af95 : ByteArray := prog_29_method_22_code
def yJ2_compress_5af95 : MethodName := ⟨RJ2, "compress", "([BI[BII)I"⟩
abbrev cJ2_newString_b4f7a : ByteArray := prog_29_method_69_code
def yJ2_newString_b4f7a : MethodName := ⟨RJ2, "newString", "([BII)Ljava/lang/String;"⟩
abbrev cJ2_charAt_3b067 : ByteArray := prog_29_method_83_code
def yJ2_charAt_3b067 : MethodName := ⟨RJ2, "charAt", "([BI)C"⟩
abbrev cJ2_checkIndex_2214a : ByteArray := prog_29_method_91_code
def yJ2_checkIndex_2214a : MethodName := ⟨RJ2, "checkIndex", "(I[B)V"⟩
abbrev cJ2_checkBoundsOffCount_d044e : ByteArray := prog_29_method_94_code
def yJ2_checkBoundsOffCount_d044e : MethodName := ⟨RJ2, "checkBoundsOffCount", "(II[B)V"⟩
def RJ10 : String := "java/lang/System"
def TJ10 : u_T := fun k => match k with
  | _ => ("", "", "", false)
def tyJ10 : Nat → FieldType := fun k => match k with
  | _ => .int
theorem nmJ10 : ∀ a, a < 0 → ∀ b, b < 0 → a ≠ b → (TJ10 a).2.1 ≠ (TJ10 b).2.1 := by decide +kernel
theorem tyJ10_ok : ∀ k, k < 0 → parseFieldDescriptor (TJ10 k).2.2.1 = some (tyJ10 k) := by decide +kernel
def RJxfd54e : String := "java/lang/constant/Constable"
def TJxfd54e : u_T := fun k => match k with
  | _ => ("", "", "", false)
def tyJxfd54e : Nat → FieldType := fun k => match k with
  | _ => .int
theorem nmJxfd54e : ∀ a, a < 0 → ∀ b, b < 0 → a ≠ b → (TJxfd54e a).2.1 ≠ (TJxfd54e b).2.1 := by decide +kernel
theorem tyJxfd54e_ok : ∀ k, k < 0 → parseFieldDescriptor (TJxfd54e k).2.2.1 = some (tyJxfd54e k) := by decide +kernel
def RJx3cf43 : String := "java/lang/constant/ConstantDesc"
def TJx3cf43 : u_T := fun k => match k with
  | _ => ("", "", "", false)
def tyJx3cf43 : Nat → FieldType := fun k => match k with
  | _ => .int
theorem nmJx3cf43 : ∀ a, a < 0 → ∀ b, b < 0 → a ≠ b → (TJx3cf43 a).2.1 ≠ (TJx3cf43 b).2.1 := by decide +kernel
theorem tyJx3cf43_ok : ∀ k, k < 0 → parseFieldDescriptor (TJx3cf43 k).2.2.1 = some (tyJx3cf43 k) := by decide +kernel
def RJxa1e45 : String := "java/util/AbstractCollection"
def TJxa1e45 : u_T := fun k => match k with
  | _ => ("", "", "", false)
def tyJxa1e45 : Nat → FieldType := fun k => match k with
  | _ => .int
theorem nmJxa1e45 : ∀ a, a < 0 → ∀ b, b < 0 → a ≠ b → (TJxa1e45 a).2.1 ≠ (TJxa1e45 b).2.1 := by decide +kernel
theorem tyJxa1e45_ok : ∀ k, k < 0 → parseFieldDescriptor (TJxa1e45 k).2.2.1 = some (tyJxa1e45 k) := by decide +kernel
abbrev cJxa1e45_init_da8c8 : ByteArray := prog_33_method_1_code
def yJxa1e45_init_da8c8 : MethodName := ⟨RJxa1e45, "<init>", "()V"⟩
def RJxc12de : String := "java/util/AbstractList"
def TJxc12de : u_T := fun k => match k with
  | _ => ("", "", "", false)
def tyJxc12de : Nat → FieldType := fun k => match k with
  | _ => .int
theorem nmJxc12de : ∀ a, a < 0 → ∀ b, b < 0 → a ≠ b → (TJxc12de a).2.1 ≠ (TJxc12de b).2.1 := by decide +kernel
theorem tyJxc12de_ok : ∀ k, k < 0 → parseFieldDescriptor (TJxc12de k).2.2.1 = some (tyJxc12de k) := by decide +kernel
abbrev cJxc12de_init_da8c8 : ByteArray := prog_34_method_1_code
def yJxc12de_init_da8c8 : MethodName := ⟨RJxc12de, "<init>", "()V"⟩
def RJx4a65c : String := "java/util/ArrayList"
def TJx4a65c : u_T := fun k => match k with
  | 0 => ("java/util/AbstractList", "modCount", "I", false)
  | 1 => ("java/util/ArrayList", "elementData", "[Ljava/lang/Object;", false)
  | _ => ("java/util/ArrayList", "size", "I", false)
def tyJx4a65c : Nat → FieldType := fun k => match k with
  | 0 => .int
  | 1 => .array (.object "java/lang/Object")
  | _ => .int
abbrev wsJx4a65c0 : List Cond := u_ws RJx4a65c TJx4a65c 3
theorem nmJx4a65c : ∀ a, a < 3 → ∀ b, b < 3 → a ≠ b → (TJx4a65c a).2.1 ≠ (TJx4a65c b).2.1 := by decide +kernel
theorem tyJx4a65c_ok : ∀ k, k < 3 → parseFieldDescriptor (TJx4a65c k).2.2.1 = some (tyJx4a65c k) := by decide +kernel
abbrev cJx4a65c_init_da8c8 : ByteArray := prog_35_method_2_code
def yJx4a65c_init_da8c8 : MethodName := ⟨RJx4a65c, "<init>", "()V"⟩
def RJ7 : String := "java/util/Arrays"
def TJ7 : u_T := fun k => match k with
  | _ => ("", "", "", false)
def tyJ7 : Nat → FieldType := fun k => match k with
  | _ => .int
theorem nmJ7 : ∀ a, a < 0 → ∀ b, b < 0 → a ≠ b → (TJ7 a).2.1 ≠ (TJ7 b).2.1 := by decide +kernel
theorem tyJ7_ok : ∀ k, k < 0 → parseFieldDescriptor (TJ7 k).2.2.1 = some (tyJ7 k) := by decide +kernel
abbrev cJ7_checkLength_df160 : ByteArray := prog_36_method_131_code
def yJ7_checkLength_df160 : MethodName := ⟨RJ7, "checkLength", "(II)V"⟩
abbrev cJ7_copyOfRange_39247 : ByteArray := prog_36_method_132_code
def yJ7_copyOfRange_39247 : MethodName := ⟨RJ7, "copyOfRange", "([BII)[B"⟩
abbrev cJ7_copyOfRangeByte_39247 : ByteArray := prog_36_method_133_code
def yJ7_copyOfRangeByte_39247 : MethodName := ⟨RJ7, "copyOfRangeByte", "([BII)[B"⟩
def RJx5ef63 : String := "java/util/Collection"
def TJx5ef63 : u_T := fun k => match k with
  | _ => ("", "", "", false)
def tyJx5ef63 : Nat → FieldType := fun k => match k with
  | _ => .int
theorem nmJx5ef63 : ∀ a, a < 0 → ∀ b, b < 0 → a ≠ b → (TJx5ef63 a).2.1 ≠ (TJx5ef63 b).2.1 := by decide +kernel
theorem tyJx5ef63_ok : ∀ k, k < 0 → parseFieldDescriptor (TJx5ef63 k).2.2.1 = some (tyJx5ef63 k) := by decide +kernel
def RJxbd725 : String := "java/util/List"
def TJxbd725 : u_T := fun k => match k with
  | _ => ("", "", "", false)
def tyJxbd725 : Nat → FieldType := fun k => match k with
  | _ => .int
theorem nmJxbd725 : ∀ a, a < 0 → ∀ b, b < 0 → a ≠ b → (TJxbd725 a).2.1 ≠ (TJxbd725 b).2.1 := by decide +kernel
theorem tyJxbd725_ok : ∀ k, k < 0 → parseFieldDescriptor (TJxbd725 k).2.2.1 = some (tyJxbd725 k) := by decide +kernel
def RJ15 : String := "java/util/Objects"
def TJ15 : u_T := fun k => match k with
  | _ => ("", "", "", false)
def tyJ15 : Nat → FieldType := fun k => match k with
  | _ => .int
theorem nmJ15 : ∀ a, a < 0 → ∀ b, b < 0 → a ≠ b → (TJ15 a).2.1 ≠ (TJ15 b).2.1 := by decide +kernel
theorem tyJ15_ok : ∀ k, k < 0 → parseFieldDescriptor (TJ15 k).2.2.1 = some (tyJ15 k) := by decide +kernel
def RJxf0a74 : String := "java/util/RandomAccess"
def TJxf0a74 : u_T := fun k => match k with
  | _ => ("", "", "", false)
def tyJxf0a74 : Nat → FieldType := fun k => match k with
  | _ => .int
theorem nmJxf0a74 : ∀ a, a < 0 → ∀ b, b < 0 → a ≠ b → (TJxf0a74 a).2.1 ≠ (TJxf0a74 b).2.1 := by decide +kernel
theorem tyJxf0a74_ok : ∀ k, k < 0 → parseFieldDescriptor (TJxf0a74 k).2.2.1 = some (tyJxf0a74 k) := by decide +kernel
def RJxa66e6 : String := "java/util/SequencedCollection"
def TJxa66e6 : u_T := fun k => match k with
  | _ => ("", "", "", false)
def tyJxa66e6 : Nat → FieldType := fun k => match k with
  | _ => .int
theorem nmJxa66e6 : ∀ a, a < 0 → ∀ b, b < 0 → a ≠ b → (TJxa66e6 a).2.1 ≠ (TJxa66e6 b).2.1 := by decide +kernel
theorem tyJxa66e6_ok : ∀ k, k < 0 → parseFieldDescriptor (TJxa66e6 k).2.2.1 = some (tyJxa66e6 k) := by decide +kernel
def RJ8 : String := "jdk/internal/util/ArraysSupport"
def TJ8 : u_T := fun k => match k with
  | _ => ("", "", "", false)
def tyJ8 : Nat → FieldType := fun k => match k with
  | _ => .int
theorem nmJ8 : ∀ a, a < 0 → ∀ b, b < 0 → a ≠ b → (TJ8 a).2.1 ≠ (TJ8 b).2.1 := by decide +kernel
theorem tyJ8_ok : ∀ k, k < 0 → parseFieldDescriptor (TJ8 k).2.2.1 = some (tyJ8 k) := by decide +kernel
def RJ3 : String := "jdk/internal/util/Preconditions"
def TJ3 : u_T := fun k => match k with
  | _ => ("", "", "", false)
def tyJ3 : Nat → FieldType := fun k => match k with
  | _ => .int
theorem nmJ3 : ∀ a, a < 0 → ∀ b, b < 0 → a ≠ b → (TJ3 a).2.1 ≠ (TJ3 b).2.1 := by decide +kernel
theorem tyJ3_ok : ∀ k, k < 0 → parseFieldDescriptor (TJ3 k).2.2.1 = some (tyJ3 k) := by decide +kernel
abbrev cJ3_checkIndex_8e157 : ByteArray := prog_43_method_11_code
def yJ3_checkIndex_8e157 : MethodName := ⟨RJ3, "checkIndex", "(IILjava/util/function/BiFunction;)I"⟩
abbrev cJ3_checkFromToIndex_8c36e : ByteArray := prog_43_method_12_code
def yJ3_checkFromToIndex_8c36e : MethodName := ⟨RJ3, "checkFromToIndex", "(IIILjava/util/function/BiFunction;)I"⟩
abbrev cJ3_checkFromIndexSize_8c36e : ByteArray := prog_43_method_13_code
def yJ3_checkFromIndexSize_8c36e : MethodName := ⟨RJ3, "checkFromIndexSize", "(IIILjava/util/function/BiFunction;)I"⟩
def RL : String := "GoalHouseLaw"
def wsX11_init : List Cond := .code yX11_init cX11_init 2 none :: ([.methodLink RX11 1 objectInit, .instanceMethod objectInit, .code objectInit ⟨#[0xb1]⟩ 1 none, .fieldLink RX11 7 "GoalHouse$Val" "kind" "I"] ++ wsX110)
def wsX11_text : List Cond := .code yX11_text cX11_text 4 (some (.object "GoalHouse$Val")) :: ([.classLink RX11 8 RX11, .instantiable RX11 11, .initialized RX11, .fieldLink RX11 20 "GoalHouse$Val" "bytes" "[B", .fieldLink RX11 24 "GoalHouse$Val" "off" "I", .fieldLink RX11 27 "GoalHouse$Val" "len" "I", .methodLink RX11 13 yX11_init, .instanceMethod yX11_init, .code yX11_init cX11_init 2 none, .methodLink RX11 1 objectInit, .instanceMethod objectInit, .code objectInit ⟨#[0xb1]⟩ 1 none, .fieldLink RX11 7 "GoalHouse$Val" "kind" "I"] ++ wsX110)
def wsJ3_checkIndex_8e157 : List Cond := .code yJ3_checkIndex_8e157 cJ3_checkIndex_8e157 3 (some .int) :: ([])
def wsX10_init : List Cond := .code yX10_init cX10_init 3 none :: ([.methodLink RX10 3 objectInit, .instanceMethod objectInit, .code objectInit ⟨#[0xb1]⟩ 1 none, .fieldLink RX10 9 "GoalHouse$Thing" "kind" "I", .fieldLink RX10 15 "GoalHouse$Thing" "self" "LGoalHouse$Val;"] ++ wsX100)
def wsX10_make : List Cond := .code yX10_make cX10_make 2 (some (.object "GoalHouse$Thing")) :: ([.classLink RX10 10 RX10, .instantiable RX10 19, .initialized RX10, .classLink RX10 19 RX11, .instantiable RX11 11, .initialized RX11, .fieldLink RX10 15 "GoalHouse$Thing" "self" "LGoalHouse$Val;", .fieldLink RX10 27 "GoalHouse$Val" "thing" "LGoalHouse$Thing;", .methodLink RX10 21 yX11_init, .instanceMethod yX11_init, .code yX11_init cX11_init 2 none, .methodLink RX11 1 objectInit, .instanceMethod objectInit, .code objectInit ⟨#[0xb1]⟩ 1 none, .fieldLink RX11 7 "GoalHouse$Val" "kind" "I", .methodLink RX10 24 yX10_init, .instanceMethod yX10_init, .code yX10_init cX10_init 3 none, .methodLink RX10 3 objectInit, .fieldLink RX10 9 "GoalHouse$Thing" "kind" "I"] ++ wsX100 ++ wsX110)
def wsX3_emptySet : List Cond := .code yX3_emptySet cX3_emptySet 1 (some (.object "GoalHouse$Val")) :: ([.classLink RX3 9 RX11, .instantiable RX11 11, .initialized RX11, .arrayClass .long, .fieldLink RX3 99 "GoalHouse$Val" "bits" "[J", .methodLink RX3 11 yX11_init, .instanceMethod yX11_init, .code yX11_init cX11_init 2 none, .methodLink RX11 1 objectInit, .instanceMethod objectInit, .code objectInit ⟨#[0xb1]⟩ 1 none, .fieldLink RX11 7 "GoalHouse$Val" "kind" "I"] ++ wsX110)
def wsX11_put : List Cond := .code yX11_put cX11_put 3 none :: ([.fieldLink RX11 34 "GoalHouse$Val" "bits" "[J"] ++ wsX110)
def wsJ0_coder_7d493 : List Cond := .code yJ0_coder_7d493 cJ0_coder_7d493 1 (some .byte) :: ([.fieldLink RJ0 38 "java/lang/String" "COMPACT_STRINGS" "Z", .fieldLink RJ0 15 "java/lang/String" "coder" "B"] ++ wsJ00)
def wsJ0_length_8abf5 : List Cond := .code yJ0_length_8abf5 cJ0_length_8abf5 1 (some .int) :: ([.fieldLink RJ0 9 "java/lang/String" "value" "[B", .methodLink RJ0 335 yJ0_coder_7d493, .instanceMethod yJ0_coder_7d493, .selects RJ0 yJ0_coder_7d493 yJ0_coder_7d493, .initialized RJ0, .code yJ0_coder_7d493 cJ0_coder_7d493 1 (some .byte), .fieldLink RJ0 38 "java/lang/String" "COMPACT_STRINGS" "Z", .fieldLink RJ0 15 "java/lang/String" "coder" "B"] ++ wsJ00)
def wsJ0_isLatin1_aae02 : List Cond := .code yJ0_isLatin1_aae02 cJ0_isLatin1_aae02 1 (some .boolean) :: ([.fieldLink RJ0 38 "java/lang/String" "COMPACT_STRINGS" "Z", .fieldLink RJ0 15 "java/lang/String" "coder" "B"] ++ wsJ00)
def wsJ0_checkIndex_df160 : List Cond := .code yJ0_checkIndex_df160 cJ0_checkIndex_df160 2 none :: ([.fieldLink RJ0 1053 "jdk/internal/util/Preconditions" "SIOOBE_FORMATTER" "Ljava/util/function/BiFunction;", .methodLink RJ0 1059 yJ3_checkIndex_8e157, .static yJ3_checkIndex_8e157, .initialized RJ3, .code yJ3_checkIndex_8e157 cJ3_checkIndex_8e157 3 (some .int)])
def wsJ1_charAt_3b067 : List Cond := .code yJ1_charAt_3b067 cJ1_charAt_3b067 2 (some .char) :: ([.methodLink RJ1 9 yJ0_checkIndex_df160, .static yJ0_checkIndex_df160, .initialized RJ0, .code yJ0_checkIndex_df160 cJ0_checkIndex_df160 2 none, .fieldLink RJ0 1053 "jdk/internal/util/Preconditions" "SIOOBE_FORMATTER" "Ljava/util/function/BiFunction;", .methodLink RJ0 1059 yJ3_checkIndex_8e157, .static yJ3_checkIndex_8e157, .initialized RJ3, .code yJ3_checkIndex_8e157 cJ3_checkIndex_8e157 3 (some .int)])
def wsJ0_charAt_5068e_r1 : List Cond := [Cond.fieldLink RJ0 9 "java/lang/String" "value" "[B", Cond.methodLink RJ0 492 yJ0_isLatin1_aae02, Cond.instanceMethod yJ0_isLatin1_aae02, Cond.selects RJ0 yJ0_isLatin1_aae02 yJ0_isLatin1_aae02, Cond.initialized RJ0, Cond.code yJ0_isLatin1_aae02 cJ0_isLatin1_aae02 1 (some .boolean), Cond.fieldLink RJ0 38 "java/lang/String" "COMPACT_STRINGS" "Z", Cond.fieldLink RJ0 15 "java/lang/String" "coder" "B", Cond.methodLink RJ0 495 yJ1_charAt_3b067, Cond.static yJ1_charAt_3b067, Cond.initialized RJ1, Cond.code yJ1_charAt_3b067 cJ1_charAt_3b067 2 (some .char), Cond.methodLink RJ1 9 yJ0_checkIndex_df160, Cond.static yJ0_checkIndex_df160, Cond.code yJ0_checkIndex_df160 cJ0_checkIndex_df160 2 none, Cond.fieldLink RJ0 1053 "jdk/internal/util/Preconditions" "SIOOBE_FORMATTER" "Ljava/util/function/BiFunction;", Cond.methodLink RJ0 1059 yJ3_checkIndex_8e157, Cond.static yJ3_checkIndex_8e157, Cond.initialized RJ3, Cond.code yJ3_checkIndex_8e157 cJ3_checkIndex_8e157 3 (some .int), Cond.methodLink RJ0 498 yJ2_charAt_3b067, Cond.static yJ2_charAt_3b067, Cond.initialized RJ2, Cond.code yJ2_charAt_3b067 cJ2_charAt_3b067 2 (some .char)]
def wsJ0_charAt_5068e_r2 : List Cond := [Cond.methodLink RJ2 67 yJ2_checkIndex_2214a, Cond.static yJ2_checkIndex_2214a, Cond.code yJ2_checkIndex_2214a cJ2_checkIndex_2214a 2 none, Cond.methodLink RJ2 48 yJ2_length_9d52b, Cond.static yJ2_length_9d52b, Cond.code yJ2_length_9d52b cJ2_length_9d52b 1 (some .int), Cond.methodLink RJ2 414 yJ0_checkIndex_df160, Cond.methodLink RJ2 71 yJ2_getChar_3b067, Cond.static yJ2_getChar_3b067, Cond.code yJ2_getChar_3b067 cJ2_getChar_3b067 2 (some .char), Cond.fieldLink RJ2 44 "java/lang/StringUTF16" "$assertionsDisabled" "Z", Cond.fieldLink RJ2 59 "java/lang/StringUTF16" "HI_BYTE_SHIFT" "I", Cond.fieldLink RJ2 63 "java/lang/StringUTF16" "LO_BYTE_SHIFT" "I"]
def wsJ0_charAt_5068e : List Cond := .code yJ0_charAt_5068e cJ0_charAt_5068e 2 (some .char) :: ((wsJ0_charAt_5068e_r1 ++ wsJ0_charAt_5068e_r2) ++ wsJ00)
def wsJ3_checkFromToIndex_8c36e : List Cond := .code yJ3_checkFromToIndex_8c36e cJ3_checkFromToIndex_8c36e 4 (some .int) :: ([])
def wsJ0_checkBoundsBeginEnd_23922 : List Cond := .code yJ0_checkBoundsBeginEnd_23922 cJ0_checkBoundsBeginEnd_23922 3 none :: ([.fieldLink RJ0 1053 "jdk/internal/util/Preconditions" "SIOOBE_FORMATTER" "Ljava/util/function/BiFunction;", .methodLink RJ0 1062 yJ3_checkFromToIndex_8c36e, .static yJ3_checkFromToIndex_8c36e, .initialized RJ3, .code yJ3_checkFromToIndex_8c36e cJ3_checkFromToIndex_8c36e 4 (some .int)])
def wsJ7_checkLength_df160 : List Cond := .code yJ7_checkLength_df160 cJ7_checkLength_df160 2 none :: ([])
def wsJ7_copyOfRangeByte_39247 : List Cond := .code yJ7_copyOfRangeByte_39247 cJ7_copyOfRangeByte_39247 5 (some (.array .byte)) :: ([.arrayClass .byte, .methodLink RJ7 304 Lib.Math.min.name, .static Lib.Math.min.name, .initialized "java/lang/Math", .code Lib.Math.min.name Lib.Math.min.code 2 (some .int), .methodLink RJ7 150 arraycopyName, .native arraycopyName, .static arraycopyName, .initialized "java/lang/System", .methodLink RJ7 343 yJ7_checkLength_df160, .static yJ7_checkLength_df160, .initialized RJ7, .code yJ7_checkLength_df160 cJ7_checkLength_df160 2 none])
def wsJ7_copyOfRange_39247 : List Cond := .code yJ7_copyOfRange_39247 cJ7_copyOfRange_39247 3 (some (.array .byte)) :: ([.methodLink RJ7 310 ⟨"[B", "clone", "()Ljava/lang/Object;"⟩, .sameMethod "[B" "java/lang/Object" "clone" "()Ljava/lang/Object;", .native ⟨"java/lang/Object", "clone", "()Ljava/lang/Object;"⟩, .instanceMethod ⟨"java/lang/Object", "clone", "()Ljava/lang/Object;"⟩, .selects "[B" ⟨"[B", "clone", "()Ljava/lang/Object;"⟩ ⟨"java/lang/Object", "clone", "()Ljava/lang/Object;"⟩, .classLink RJ7 311 "[B", .methodLink RJ7 339 yJ7_copyOfRangeByte_39247, .static yJ7_copyOfRangeByte_39247, .initialized RJ7, .code yJ7_copyOfRangeByte_39247 cJ7_copyOfRangeByte_39247 5 (some (.array .byte)), .arrayClass .byte, .methodLink RJ7 304 Lib.Math.min.name, .static Lib.Math.min.name, .initialized "java/lang/Math", .code Lib.Math.min.name Lib.Math.min.code 2 (some .int), .methodLink RJ7 150 arraycopyName, .native arraycopyName, .static arraycopyName, .initialized "java/lang/System", .methodLink RJ7 343 yJ7_checkLength_df160, .static yJ7_checkLength_df160, .code yJ7_checkLength_df160 cJ7_checkLength_df160 2 none])
def wsJ0_init_031fb : List Cond := .code yJ0_init_031fb cJ0_init_031fb 3 none :: ([.methodLink RJ0 1 objectInit, .instanceMethod objectInit, .code objectInit ⟨#[0xb1]⟩ 1 none, .fieldLink RJ0 9 "java/lang/String" "value" "[B", .fieldLink RJ0 15 "java/lang/String" "coder" "B"] ++ wsJ00)
def wsJ1_newString_b4f7a_r1 : List Cond := [Cond.classLink RJ1 1 RJ0, Cond.instantiable RJ0 4, Cond.initialized RJ0, Cond.methodLink RJ1 232 yJ7_copyOfRange_39247, Cond.static yJ7_copyOfRange_39247, Cond.initialized RJ7, Cond.code yJ7_copyOfRange_39247 cJ7_copyOfRange_39247 3 (some (.array .byte)), Cond.methodLink RJ7 310 ⟨"[B", "clone", "()Ljava/lang/Object;"⟩, Cond.sameMethod "[B" "java/lang/Object" "clone" "()Ljava/lang/Object;", Cond.native ⟨"java/lang/Object", "clone", "()Ljava/lang/Object;"⟩, Cond.instanceMethod ⟨"java/lang/Object", "clone", "()Ljava/lang/Object;"⟩, Cond.selects "[B" ⟨"[B", "clone", "()Ljava/lang/Object;"⟩ ⟨"java/lang/Object", "clone", "()Ljava/lang/Object;"⟩, Cond.classLink RJ7 311 "[B", Cond.methodLink RJ7 339 yJ7_copyOfRangeByte_39247, Cond.static yJ7_copyOfRangeByte_39247, Cond.code yJ7_copyOfRangeByte_39247 cJ7_copyOfRangeByte_39247 5 (some (.array .byte)), Cond.arrayClass .byte, Cond.methodLink RJ7 304 Lib.Math.min.name, Cond.static Lib.Math.min.name, Cond.initialized "java/lang/Math", Cond.code Lib.Math.min.name Lib.Math.min.code 2 (some .int), Cond.methodLink RJ7 150 arraycopyName, Cond.native arraycopyName, Cond.static arraycopyName]
def wsJ1_newString_b4f7a_r2 : List Cond := [Cond.initialized "java/lang/System", Cond.methodLink RJ7 343 yJ7_checkLength_df160, Cond.static yJ7_checkLength_df160, Cond.code yJ7_checkLength_df160 cJ7_checkLength_df160 2 none, Cond.methodLink RJ1 112 yJ0_init_031fb, Cond.instanceMethod yJ0_init_031fb, Cond.code yJ0_init_031fb cJ0_init_031fb 3 none, Cond.methodLink RJ0 1 objectInit, Cond.instanceMethod objectInit, Cond.code objectInit ⟨#[0xb1]⟩ 1 none, Cond.fieldLink RJ0 9 "java/lang/String" "value" "[B", Cond.fieldLink RJ0 15 "java/lang/String" "coder" "B"]
def wsJ1_newString_b4f7a : List Cond := .code yJ1_newString_b4f7a cJ1_newString_b4f7a 3 (some (.object "java/lang/String")) :: ((wsJ1_newString_b4f7a_r1 ++ wsJ1_newString_b4f7a_r2) ++ wsJ00)
def wsJ0_substring_37a41_r1 : List Cond := [Cond.fieldLink RJ0 9 "java/lang/String" "value" "[B", Cond.methodLink RJ0 505 yJ0_length_8abf5, Cond.instanceMethod yJ0_length_8abf5, Cond.selects RJ0 yJ0_length_8abf5 yJ0_length_8abf5, Cond.initialized RJ0, Cond.code yJ0_length_8abf5 cJ0_length_8abf5 1 (some .int), Cond.methodLink RJ0 335 yJ0_coder_7d493, Cond.instanceMethod yJ0_coder_7d493, Cond.selects RJ0 yJ0_coder_7d493 yJ0_coder_7d493, Cond.code yJ0_coder_7d493 cJ0_coder_7d493 1 (some .byte), Cond.fieldLink RJ0 38 "java/lang/String" "COMPACT_STRINGS" "Z", Cond.fieldLink RJ0 15 "java/lang/String" "coder" "B", Cond.methodLink RJ0 521 yJ0_checkBoundsBeginEnd_23922, Cond.static yJ0_checkBoundsBeginEnd_23922, Cond.code yJ0_checkBoundsBeginEnd_23922 cJ0_checkBoundsBeginEnd_23922 3 none, Cond.fieldLink RJ0 1053 "jdk/internal/util/Preconditions" "SIOOBE_FORMATTER" "Ljava/util/function/BiFunction;", Cond.methodLink RJ0 1062 yJ3_checkFromToIndex_8c36e, Cond.static yJ3_checkFromToIndex_8c36e, Cond.initialized RJ3, Cond.code yJ3_checkFromToIndex_8c36e cJ3_checkFromToIndex_8c36e 4 (some .int), Cond.methodLink RJ0 492 yJ0_isLatin1_aae02, Cond.instanceMethod yJ0_isLatin1_aae02, Cond.selects RJ0 yJ0_isLatin1_aae02 yJ0_isLatin1_aae02, Cond.code yJ0_isLatin1_aae02 cJ0_isLatin1_aae02 1 (some .boolean)]
def wsJ0_substring_37a41_r2 : List Cond := [Cond.methodLink RJ0 685 yJ1_newString_b4f7a, Cond.static yJ1_newString_b4f7a, Cond.initialized RJ1, Cond.code yJ1_newString_b4f7a cJ1_newString_b4f7a 3 (some (.object "java/lang/String")), Cond.classLink RJ1 1 RJ0, Cond.instantiable RJ0 4, Cond.methodLink RJ1 232 yJ7_copyOfRange_39247, Cond.static yJ7_copyOfRange_39247, Cond.initialized RJ7, Cond.code yJ7_copyOfRange_39247 cJ7_copyOfRange_39247 3 (some (.array .byte)), Cond.methodLink RJ7 310 ⟨"[B", "clone", "()Ljava/lang/Object;"⟩, Cond.sameMethod "[B" "java/lang/Object" "clone" "()Ljava/lang/Object;", Cond.native ⟨"java/lang/Object", "clone", "()Ljava/lang/Object;"⟩, Cond.instanceMethod ⟨"java/lang/Object", "clone", "()Ljava/lang/Object;"⟩, Cond.selects "[B" ⟨"[B", "clone", "()Ljava/lang/Object;"⟩ ⟨"java/lang/Object", "clone", "()Ljava/lang/Object;"⟩, Cond.classLink RJ7 311 "[B", Cond.methodLink RJ7 339 yJ7_copyOfRangeByte_39247, Cond.static yJ7_copyOfRangeByte_39247, Cond.code yJ7_copyOfRangeByte_39247 cJ7_copyOfRangeByte_39247 5 (some (.array .byte)), Cond.arrayClass .byte, Cond.methodLink RJ7 304 Lib.Math.min.name, Cond.static Lib.Math.min.name, Cond.initialized "java/lang/Math", Cond.code Lib.Math.min.name Lib.Math.min.code 2 (some .int)]
def wsJ0_substring_37a41_r3 : List Cond := [Cond.methodLink RJ7 150 arraycopyName, Cond.native arraycopyName, Cond.static arraycopyName, Cond.initialized "java/lang/System", Cond.methodLink RJ7 343 yJ7_checkLength_df160, Cond.static yJ7_checkLength_df160, Cond.code yJ7_checkLength_df160 cJ7_checkLength_df160 2 none, Cond.methodLink RJ1 112 yJ0_init_031fb, Cond.instanceMethod yJ0_init_031fb, Cond.code yJ0_init_031fb cJ0_init_031fb 3 none, Cond.methodLink RJ0 1 objectInit, Cond.instanceMethod objectInit, Cond.code objectInit ⟨#[0xb1]⟩ 1 none, Cond.methodLink RJ0 689 yJ2_newString_b4f7a, Cond.static yJ2_newString_b4f7a, Cond.initialized RJ2, Cond.code yJ2_newString_b4f7a cJ2_newString_b4f7a 5 (some (.object "java/lang/String")), Cond.fieldLink RJ2 251 "java/lang/String" "COMPACT_STRINGS" "Z", Cond.classLink RJ2 3 RJ0, Cond.methodLink RJ2 257 yJ2_compress_39247, Cond.static yJ2_compress_39247, Cond.code yJ2_compress_39247 cJ2_compress_39247 6 (some (.array .byte)), Cond.methodLink RJ2 123 yJ2_compress_5af95, Cond.static yJ2_compress_5af95]
def wsJ0_substring_37a41_r4 : List Cond := [Cond.code yJ2_compress_5af95 cJ2_compress_5af95 7 (some .int), Cond.methodLink RJ2 173 yJ2_checkBoundsOffCount_d044e, Cond.static yJ2_checkBoundsOffCount_d044e, Cond.code yJ2_checkBoundsOffCount_d044e cJ2_checkBoundsOffCount_d044e 3 none, Cond.methodLink RJ2 48 yJ2_length_9d52b, Cond.static yJ2_length_9d52b, Cond.code yJ2_length_9d52b cJ2_length_9d52b 1 (some .int), Cond.methodLink RJ2 419 yJ0_checkBoundsOffCount_cabcc, Cond.static yJ0_checkBoundsOffCount_cabcc, Cond.code yJ0_checkBoundsOffCount_cabcc cJ0_checkBoundsOffCount_cabcc 3 (some .int), Cond.methodLink RJ0 1065 yJ3_checkFromIndexSize_8c36e, Cond.static yJ3_checkFromIndexSize_8c36e, Cond.code yJ3_checkFromIndexSize_8c36e cJ3_checkFromIndexSize_8c36e 4 (some .int), Cond.methodLink RJ2 71 yJ2_getChar_3b067, Cond.static yJ2_getChar_3b067, Cond.code yJ2_getChar_3b067 cJ2_getChar_3b067 2 (some .char), Cond.fieldLink RJ2 44 "java/lang/StringUTF16" "$assertionsDisabled" "Z", Cond.fieldLink RJ2 59 "java/lang/StringUTF16" "HI_BYTE_SHIFT" "I", Cond.fieldLink RJ2 63 "java/lang/StringUTF16" "LO_BYTE_SHIFT" "I", Cond.methodLink RJ2 11 yJ2_newBytesLength_0f7a4, Cond.static yJ2_newBytesLength_0f7a4, Cond.code yJ2_newBytesLength_0f7a4 cJ2_newBytesLength_0f7a4 1 (some .int), Cond.constant RJ2 20 (1073741823), Cond.methodLink RJ2 126 yJ7_copyOfRange_39247]
def wsJ0_substring_37a41_r5 : List Cond := [Cond.methodLink RJ2 259 yJ2_coderFromArrayLen_85cad, Cond.static yJ2_coderFromArrayLen_85cad, Cond.code yJ2_coderFromArrayLen_85cad cJ2_coderFromArrayLen_85cad 2 (some .byte), Cond.methodLink RJ2 263 yJ0_init_031fb]
def wsJ0_substring_37a41 : List Cond := .code yJ0_substring_37a41 cJ0_substring_37a41 5 (some (.object "java/lang/String")) :: ((wsJ0_substring_37a41_r1 ++ (wsJ0_substring_37a41_r2 ++ (wsJ0_substring_37a41_r3 ++ (wsJ0_substring_37a41_r4 ++ wsJ0_substring_37a41_r5)))) ++ wsJ00)
def wsX12_wordOf_r1 : List Cond := [Cond.methodLink RX12 148 yJ0_length_8abf5, Cond.instanceMethod yJ0_length_8abf5, Cond.selects RJ0 yJ0_length_8abf5 yJ0_length_8abf5, Cond.initialized RJ0, Cond.code yJ0_length_8abf5 cJ0_length_8abf5 1 (some .int), Cond.fieldLink RJ0 9 "java/lang/String" "value" "[B", Cond.methodLink RJ0 335 yJ0_coder_7d493, Cond.instanceMethod yJ0_coder_7d493, Cond.selects RJ0 yJ0_coder_7d493 yJ0_coder_7d493, Cond.code yJ0_coder_7d493 cJ0_coder_7d493 1 (some .byte), Cond.fieldLink RJ0 38 "java/lang/String" "COMPACT_STRINGS" "Z", Cond.fieldLink RJ0 15 "java/lang/String" "coder" "B", Cond.methodLink RX12 151 yJ0_charAt_5068e, Cond.instanceMethod yJ0_charAt_5068e, Cond.selects RJ0 yJ0_charAt_5068e yJ0_charAt_5068e, Cond.code yJ0_charAt_5068e cJ0_charAt_5068e 2 (some .char), Cond.methodLink RJ0 492 yJ0_isLatin1_aae02, Cond.instanceMethod yJ0_isLatin1_aae02, Cond.selects RJ0 yJ0_isLatin1_aae02 yJ0_isLatin1_aae02, Cond.code yJ0_isLatin1_aae02 cJ0_isLatin1_aae02 1 (some .boolean), Cond.methodLink RJ0 495 yJ1_charAt_3b067, Cond.static yJ1_charAt_3b067, Cond.initialized RJ1, Cond.code yJ1_charAt_3b067 cJ1_charAt_3b067 2 (some .char)]
def wsX12_wordOf_r2 : List Cond := [Cond.methodLink RJ1 9 yJ0_checkIndex_df160, Cond.static yJ0_checkIndex_df160, Cond.code yJ0_checkIndex_df160 cJ0_checkIndex_df160 2 none, Cond.fieldLink RJ0 1053 "jdk/internal/util/Preconditions" "SIOOBE_FORMATTER" "Ljava/util/function/BiFunction;", Cond.methodLink RJ0 1059 yJ3_checkIndex_8e157, Cond.static yJ3_checkIndex_8e157, Cond.initialized RJ3, Cond.code yJ3_checkIndex_8e157 cJ3_checkIndex_8e157 3 (some .int), Cond.methodLink RJ0 498 yJ2_charAt_3b067, Cond.static yJ2_charAt_3b067, Cond.initialized RJ2, Cond.code yJ2_charAt_3b067 cJ2_charAt_3b067 2 (some .char), Cond.methodLink RJ2 67 yJ2_checkIndex_2214a, Cond.static yJ2_checkIndex_2214a, Cond.code yJ2_checkIndex_2214a cJ2_checkIndex_2214a 2 none, Cond.methodLink RJ2 48 yJ2_length_9d52b, Cond.static yJ2_length_9d52b, Cond.code yJ2_length_9d52b cJ2_length_9d52b 1 (some .int), Cond.methodLink RJ2 414 yJ0_checkIndex_df160, Cond.methodLink RJ2 71 yJ2_getChar_3b067, Cond.static yJ2_getChar_3b067, Cond.code yJ2_getChar_3b067 cJ2_getChar_3b067 2 (some .char), Cond.fieldLink RJ2 44 "java/lang/StringUTF16" "$assertionsDisabled" "Z", Cond.fieldLink RJ2 59 "java/lang/StringUTF16" "HI_BYTE_SHIFT" "I"]
def wsX12_wordOf_r3 : List Cond := [Cond.fieldLink RJ2 63 "java/lang/StringUTF16" "LO_BYTE_SHIFT" "I", Cond.methodLink RX12 287 yJ0_substring_37a41, Cond.instanceMethod yJ0_substring_37a41, Cond.selects RJ0 yJ0_substring_37a41 yJ0_substring_37a41, Cond.code yJ0_substring_37a41 cJ0_substring_37a41 5 (some (.object "java/lang/String")), Cond.methodLink RJ0 505 yJ0_length_8abf5, Cond.methodLink RJ0 521 yJ0_checkBoundsBeginEnd_23922, Cond.static yJ0_checkBoundsBeginEnd_23922, Cond.code yJ0_checkBoundsBeginEnd_23922 cJ0_checkBoundsBeginEnd_23922 3 none, Cond.methodLink RJ0 1062 yJ3_checkFromToIndex_8c36e, Cond.static yJ3_checkFromToIndex_8c36e, Cond.code yJ3_checkFromToIndex_8c36e cJ3_checkFromToIndex_8c36e 4 (some .int), Cond.methodLink RJ0 685 yJ1_newString_b4f7a, Cond.static yJ1_newString_b4f7a, Cond.code yJ1_newString_b4f7a cJ1_newString_b4f7a 3 (some (.object "java/lang/String")), Cond.classLink RJ1 1 RJ0, Cond.instantiable RJ0 4, Cond.methodLink RJ1 232 yJ7_copyOfRange_39247, Cond.static yJ7_copyOfRange_39247, Cond.initialized RJ7, Cond.code yJ7_copyOfRange_39247 cJ7_copyOfRange_39247 3 (some (.array .byte)), Cond.methodLink RJ7 310 ⟨"[B", "clone", "()Ljava/lang/Object;"⟩, Cond.sameMethod "[B" "java/lang/Object" "clone" "()Ljava/lang/Object;", Cond.native ⟨"java/lang/Object", "clone", "()Ljava/lang/Object;"⟩]
def wsX12_wordOf_r4 : List Cond := [Cond.instanceMethod ⟨"java/lang/Object", "clone", "()Ljava/lang/Object;"⟩, Cond.selects "[B" ⟨"[B", "clone", "()Ljava/lang/Object;"⟩ ⟨"java/lang/Object", "clone", "()Ljava/lang/Object;"⟩, Cond.classLink RJ7 311 "[B", Cond.methodLink RJ7 339 yJ7_copyOfRangeByte_39247, Cond.static yJ7_copyOfRangeByte_39247, Cond.code yJ7_copyOfRangeByte_39247 cJ7_copyOfRangeByte_39247 5 (some (.array .byte)), Cond.arrayClass .byte, Cond.methodLink RJ7 304 Lib.Math.min.name, Cond.static Lib.Math.min.name, Cond.initialized "java/lang/Math", Cond.code Lib.Math.min.name Lib.Math.min.code 2 (some .int), Cond.methodLink RJ7 150 arraycopyName, Cond.native arraycopyName, Cond.static arraycopyName, Cond.initialized "java/lang/System", Cond.methodLink RJ7 343 yJ7_checkLength_df160, Cond.static yJ7_checkLength_df160, Cond.code yJ7_checkLength_df160 cJ7_checkLength_df160 2 none, Cond.methodLink RJ1 112 yJ0_init_031fb, Cond.instanceMethod yJ0_init_031fb, Cond.code yJ0_init_031fb cJ0_init_031fb 3 none, Cond.methodLink RJ0 1 objectInit, Cond.instanceMethod objectInit, Cond.code objectInit ⟨#[0xb1]⟩ 1 none]
def wsX12_wordOf_r5 : List Cond := [Cond.methodLink RJ0 689 yJ2_newString_b4f7a, Cond.static yJ2_newString_b4f7a, Cond.code yJ2_newString_b4f7a cJ2_newString_b4f7a 5 (some (.object "java/lang/String")), Cond.fieldLink RJ2 251 "java/lang/String" "COMPACT_STRINGS" "Z", Cond.classLink RJ2 3 RJ0, Cond.methodLink RJ2 257 yJ2_compress_39247, Cond.static yJ2_compress_39247, Cond.code yJ2_compress_39247 cJ2_compress_39247 6 (some (.array .byte)), Cond.methodLink RJ2 123 yJ2_compress_5af95, Cond.static yJ2_compress_5af95, Cond.code yJ2_compress_5af95 cJ2_compress_5af95 7 (some .int), Cond.methodLink RJ2 173 yJ2_checkBoundsOffCount_d044e, Cond.static yJ2_checkBoundsOffCount_d044e, Cond.code yJ2_checkBoundsOffCount_d044e cJ2_checkBoundsOffCount_d044e 3 none, Cond.methodLink RJ2 419 yJ0_checkBoundsOffCount_cabcc, Cond.static yJ0_checkBoundsOffCount_cabcc, Cond.code yJ0_checkBoundsOffCount_cabcc cJ0_checkBoundsOffCount_cabcc 3 (some .int), Cond.methodLink RJ0 1065 yJ3_checkFromIndexSize_8c36e, Cond.static yJ3_checkFromIndexSize_8c36e, Cond.code yJ3_checkFromIndexSize_8c36e cJ3_checkFromIndexSize_8c36e 4 (some .int), Cond.methodLink RJ2 11 yJ2_newBytesLength_0f7a4, Cond.static yJ2_newBytesLength_0f7a4, Cond.code yJ2_newBytesLength_0f7a4 cJ2_newBytesLength_0f7a4 1 (some .int), Cond.constant RJ2 20 (1073741823)]
def wsX12_wordOf_r6 : List Cond := [Cond.methodLink RJ2 126 yJ7_copyOfRange_39247, Cond.methodLink RJ2 259 yJ2_coderFromArrayLen_85cad, Cond.static yJ2_coderFromArrayLen_85cad, Cond.code yJ2_coderFromArrayLen_85cad cJ2_coderFromArrayLen_85cad 2 (some .byte), Cond.methodLink RJ2 263 yJ0_init_031fb]
def wsX12_wordOf : List Cond := .code yX12_wordOf cX12_wordOf 5 (some (.object "java/lang/String")) :: ((wsX12_wordOf_r1 ++ (wsX12_wordOf_r2 ++ (wsX12_wordOf_r3 ++ (wsX12_wordOf_r4 ++ (wsX12_wordOf_r5 ++ wsX12_wordOf_r6))))) ++ wsJ00)
def wsJxa1e45_init_da8c8 : List Cond := .code yJxa1e45_init_da8c8 cJxa1e45_init_da8c8 1 none :: ([.methodLink RJxa1e45 1 objectInit, .instanceMethod objectInit, .code objectInit ⟨#[0xb1]⟩ 1 none])
def wsJxc12de_init_da8c8 : List Cond := .code yJxc12de_init_da8c8 cJxc12de_init_da8c8 1 none :: ([.fieldLink RJxc12de 7 "java/util/AbstractList" "modCount" "I", .methodLink RJxc12de 1 yJxa1e45_init_da8c8, .instanceMethod yJxa1e45_init_da8c8, .initialized RJxa1e45, .code yJxa1e45_init_da8c8 cJxa1e45_init_da8c8 1 none, .methodLink RJxa1e45 1 objectInit, .instanceMethod objectInit, .code objectInit ⟨#[0xb1]⟩ 1 none] ++ wsJx4a65c0)
def wsJx4a65c_init_da8c8 : List Cond := .code yJx4a65c_init_da8c8 cJx4a65c_init_da8c8 1 none :: ([.fieldLink RJx4a65c 39 "java/util/ArrayList" "DEFAULTCAPACITY_EMPTY_ELEMENTDATA" "[Ljava/lang/Object;", .fieldLink RJx4a65c 9 "java/util/ArrayList" "elementData" "[Ljava/lang/Object;", .methodLink RJx4a65c 1 yJxc12de_init_da8c8, .instanceMethod yJxc12de_init_da8c8, .initialized RJxc12de, .code yJxc12de_init_da8c8 cJxc12de_init_da8c8 1 none, .fieldLink RJxc12de 7 "java/util/AbstractList" "modCount" "I", .methodLink RJxc12de 1 yJxa1e45_init_da8c8, .instanceMethod yJxa1e45_init_da8c8, .initialized RJxa1e45, .code yJxa1e45_init_da8c8 cJxa1e45_init_da8c8 1 none, .methodLink RJxa1e45 1 objectInit, .instanceMethod objectInit, .code objectInit ⟨#[0xb1]⟩ 1 none] ++ wsJx4a65c0)
def wsX5_init_r1 : List Cond := [Cond.methodLink RX5 1 objectInit, Cond.instanceMethod objectInit, Cond.code objectInit ⟨#[0xb1]⟩ 1 none, Cond.classLink RX5 7 RJx4a65c, Cond.instantiable RJx4a65c 3, Cond.initialized RJx4a65c, Cond.fieldLink RX5 10 "GoalHouse$Proc" "names" "Ljava/util/ArrayList;", Cond.fieldLink RX5 16 "GoalHouse$Proc" "statics" "Ljava/util/ArrayList;", Cond.fieldLink RX5 19 "GoalHouse$Proc" "name" "Ljava/lang/String;", Cond.fieldLink RX5 23 "GoalHouse$Proc" "kind" "I", Cond.methodLink RX5 9 yJx4a65c_init_da8c8, Cond.instanceMethod yJx4a65c_init_da8c8, Cond.code yJx4a65c_init_da8c8 cJx4a65c_init_da8c8 1 none, Cond.fieldLink RJx4a65c 39 "java/util/ArrayList" "DEFAULTCAPACITY_EMPTY_ELEMENTDATA" "[Ljava/lang/Object;", Cond.fieldLink RJx4a65c 9 "java/util/ArrayList" "elementData" "[Ljava/lang/Object;", Cond.methodLink RJx4a65c 1 yJxc12de_init_da8c8, Cond.instanceMethod yJxc12de_init_da8c8, Cond.initialized RJxc12de, Cond.code yJxc12de_init_da8c8 cJxc12de_init_da8c8 1 none, Cond.fieldLink RJxc12de 7 "java/util/AbstractList" "modCount" "I", Cond.methodLink RJxc12de 1 yJxa1e45_init_da8c8, Cond.instanceMethod yJxa1e45_init_da8c8, Cond.initialized RJxa1e45, Cond.code yJxa1e45_init_da8c8 cJxa1e45_init_da8c8 1 none]
def wsX5_init_r2 : List Cond := [Cond.methodLink RJxa1e45 1 objectInit]
def wsX5_init : List Cond := .code yX5_init cX5_init 3 none :: ((wsX5_init_r1 ++ wsX5_init_r2) ++ wsJx4a65c0 ++ wsX50)
def wsX5_make_r1 : List Cond := [Cond.classLink RX5 11 RX5, Cond.instantiable RX5 13, Cond.initialized RX5, Cond.fieldLink RX5 30 "GoalHouse$Proc" "index" "I", Cond.classLink RX5 33 RX11, Cond.instantiable RX11 11, Cond.initialized RX11, Cond.fieldLink RX5 38 "GoalHouse$Proc" "val" "LGoalHouse$Val;", Cond.fieldLink RX5 42 "GoalHouse$Val" "proc" "LGoalHouse$Proc;", Cond.methodLink RX5 27 yX5_init, Cond.instanceMethod yX5_init, Cond.code yX5_init cX5_init 3 none, Cond.methodLink RX5 1 objectInit, Cond.instanceMethod objectInit, Cond.code objectInit ⟨#[0xb1]⟩ 1 none, Cond.classLink RX5 7 RJx4a65c, Cond.instantiable RJx4a65c 3, Cond.initialized RJx4a65c, Cond.fieldLink RX5 10 "GoalHouse$Proc" "names" "Ljava/util/ArrayList;", Cond.fieldLink RX5 16 "GoalHouse$Proc" "statics" "Ljava/util/ArrayList;", Cond.fieldLink RX5 19 "GoalHouse$Proc" "name" "Ljava/lang/String;", Cond.fieldLink RX5 23 "GoalHouse$Proc" "kind" "I", Cond.methodLink RX5 9 yJx4a65c_init_da8c8, Cond.instanceMethod yJx4a65c_init_da8c8]
def wsX5_make_r2 : List Cond := [Cond.code yJx4a65c_init_da8c8 cJx4a65c_init_da8c8 1 none, Cond.fieldLink RJx4a65c 39 "java/util/ArrayList" "DEFAULTCAPACITY_EMPTY_ELEMENTDATA" "[Ljava/lang/Object;", Cond.fieldLink RJx4a65c 9 "java/util/ArrayList" "elementData" "[Ljava/lang/Object;", Cond.methodLink RJx4a65c 1 yJxc12de_init_da8c8, Cond.instanceMethod yJxc12de_init_da8c8, Cond.initialized RJxc12de, Cond.code yJxc12de_init_da8c8 cJxc12de_init_da8c8 1 none, Cond.fieldLink RJxc12de 7 "java/util/AbstractList" "modCount" "I", Cond.methodLink RJxc12de 1 yJxa1e45_init_da8c8, Cond.instanceMethod yJxa1e45_init_da8c8, Cond.initialized RJxa1e45, Cond.code yJxa1e45_init_da8c8 cJxa1e45_init_da8c8 1 none, Cond.methodLink RJxa1e45 1 objectInit, Cond.methodLink RX5 35 yX11_init, Cond.instanceMethod yX11_init, Cond.code yX11_init cX11_init 2 none, Cond.methodLink RX11 1 objectInit, Cond.fieldLink RX11 7 "GoalHouse$Val" "kind" "I"]
def wsX5_make : List Cond := .code yX5_make cX5_make 4 (some (.object "GoalHouse$Proc")) :: ((wsX5_make_r1 ++ wsX5_make_r2) ++ wsX50 ++ wsX110 ++ wsJx4a65c0)
def wsX3_range : List Cond := .code yX3_range cX3_range 6 (some (.object "GoalHouse$Val")) :: ([.methodLink RX3 92 yX3_emptySet, .static yX3_emptySet, .initialized RX3, .code yX3_emptySet cX3_emptySet 1 (some (.object "GoalHouse$Val")), .classLink RX3 9 RX11, .instantiable RX11 11, .initialized RX11, .arrayClass .long, .fieldLink RX3 99 "GoalHouse$Val" "bits" "[J", .methodLink RX3 11 yX11_init, .instanceMethod yX11_init, .code yX11_init cX11_init 2 none, .methodLink RX11 1 objectInit, .instanceMethod objectInit, .code objectInit ⟨#[0xb1]⟩ 1 none, .fieldLink RX11 7 "GoalHouse$Val" "kind" "I", .methodLink RX3 96 yX11_put, .instanceMethod yX11_put, .selects RX11 yX11_put yX11_put, .code yX11_put cX11_put 3 none, .fieldLink RX11 34 "GoalHouse$Val" "bits" "[J"] ++ wsX110)
def wsX3_init_r1 : List Cond := [Cond.methodLink RX3 3 objectInit, Cond.instanceMethod objectInit, Cond.code objectInit ⟨#[0xb1]⟩ 1 none, Cond.classLink RX3 9 RX11, Cond.instantiable RX11 11, Cond.initialized RX11, Cond.fieldLink RX3 14 "GoalHouse$Kit" "nul" "LGoalHouse$Val;", Cond.arrayClass .byte, Cond.fieldLink RX3 24 "GoalHouse$Kit" "empty" "LGoalHouse$Val;", Cond.fieldLink RX3 27 "GoalHouse$Kit" "singles" "[LGoalHouse$Val;", Cond.fieldLink RX3 31 "GoalHouse$Kit" "sets" "[LGoalHouse$Val;", Cond.classLink RX3 34 RX5, Cond.fieldLink RX3 36 "GoalHouse$Kit" "library" "[LGoalHouse$Proc;", Cond.fieldLink RX3 40 "GoalHouse$Kit" "work" "[LGoalHouse$Val;", Cond.arrayClass .int, Cond.fieldLink RX3 43 "GoalHouse$Kit" "x" "[I", Cond.fieldLink RX3 47 "GoalHouse$Kit" "y" "[I", Cond.fieldLink RX3 50 "GoalHouse$Kit" "z" "[I", Cond.fieldLink RX3 53 "GoalHouse$Kit" "image" "[B", Cond.fieldLink RX3 57 "GoalHouse$Kit" "args" "[LGoalHouse$Val;", Cond.fieldLink RX3 60 "GoalHouse$Kit" "vals" "[LGoalHouse$Val;", Cond.fieldLink RX3 69 "GoalHouse$Kit" "bag" "LGoalHouse$Thing;", Cond.fieldLink RX3 86 "GoalHouse$Kit" "breakValue" "LGoalHouse$Val;", Cond.fieldLink RX3 89 "GoalHouse$Kit" "called" "LGoalHouse$Val;"]
def wsX3_init_r2 : List Cond := [Cond.methodLink RX3 11 yX11_init, Cond.instanceMethod yX11_init, Cond.code yX11_init cX11_init 2 none, Cond.methodLink RX11 1 objectInit, Cond.fieldLink RX11 7 "GoalHouse$Val" "kind" "I", Cond.methodLink RX3 20 yX11_text, Cond.static yX11_text, Cond.code yX11_text cX11_text 4 (some (.object "GoalHouse$Val")), Cond.classLink RX11 8 RX11, Cond.fieldLink RX11 20 "GoalHouse$Val" "bytes" "[B", Cond.fieldLink RX11 24 "GoalHouse$Val" "off" "I", Cond.fieldLink RX11 27 "GoalHouse$Val" "len" "I", Cond.methodLink RX11 13 yX11_init, Cond.methodLink RX3 63 yX10_make, Cond.static yX10_make, Cond.initialized RX10, Cond.code yX10_make cX10_make 2 (some (.object "GoalHouse$Thing")), Cond.classLink RX10 10 RX10, Cond.instantiable RX10 19, Cond.classLink RX10 19 RX11, Cond.fieldLink RX10 15 "GoalHouse$Thing" "self" "LGoalHouse$Val;", Cond.fieldLink RX10 27 "GoalHouse$Val" "thing" "LGoalHouse$Thing;", Cond.methodLink RX10 21 yX11_init, Cond.methodLink RX10 24 yX10_init]
def wsX3_init_r3 : List Cond := [Cond.instanceMethod yX10_init, Cond.code yX10_init cX10_init 3 none, Cond.methodLink RX10 3 objectInit, Cond.fieldLink RX10 9 "GoalHouse$Thing" "kind" "I", Cond.static yX12_wordOf, Cond.initialized RX12, Cond.code yX12_wordOf cX12_wordOf 5 (some (.object "java/lang/String")), Cond.methodLink RX12 148 yJ0_length_8abf5, Cond.instanceMethod yJ0_length_8abf5, Cond.selects RJ0 yJ0_length_8abf5 yJ0_length_8abf5, Cond.initialized RJ0, Cond.code yJ0_length_8abf5 cJ0_length_8abf5 1 (some .int), Cond.fieldLink RJ0 9 "java/lang/String" "value" "[B", Cond.methodLink RJ0 335 yJ0_coder_7d493, Cond.instanceMethod yJ0_coder_7d493, Cond.selects RJ0 yJ0_coder_7d493 yJ0_coder_7d493, Cond.code yJ0_coder_7d493 cJ0_coder_7d493 1 (some .byte), Cond.fieldLink RJ0 38 "java/lang/String" "COMPACT_STRINGS" "Z", Cond.fieldLink RJ0 15 "java/lang/String" "coder" "B", Cond.methodLink RX12 151 yJ0_charAt_5068e, Cond.instanceMethod yJ0_charAt_5068e, Cond.selects RJ0 yJ0_charAt_5068e yJ0_charAt_5068e, Cond.code yJ0_charAt_5068e cJ0_charAt_5068e 2 (some .char), Cond.methodLink RJ0 492 yJ0_isLatin1_aae02]
def wsX3_init_r4 : List Cond := [Cond.instanceMethod yJ0_isLatin1_aae02, Cond.selects RJ0 yJ0_isLatin1_aae02 yJ0_isLatin1_aae02, Cond.code yJ0_isLatin1_aae02 cJ0_isLatin1_aae02 1 (some .boolean), Cond.methodLink RJ0 495 yJ1_charAt_3b067, Cond.static yJ1_charAt_3b067, Cond.initialized RJ1, Cond.code yJ1_charAt_3b067 cJ1_charAt_3b067 2 (some .char), Cond.methodLink RJ1 9 yJ0_checkIndex_df160, Cond.static yJ0_checkIndex_df160, Cond.code yJ0_checkIndex_df160 cJ0_checkIndex_df160 2 none, Cond.fieldLink RJ0 1053 "jdk/internal/util/Preconditions" "SIOOBE_FORMATTER" "Ljava/util/function/BiFunction;", Cond.methodLink RJ0 1059 yJ3_checkIndex_8e157, Cond.static yJ3_checkIndex_8e157, Cond.initialized RJ3, Cond.code yJ3_checkIndex_8e157 cJ3_checkIndex_8e157 3 (some .int), Cond.methodLink RJ0 498 yJ2_charAt_3b067, Cond.static yJ2_charAt_3b067, Cond.initialized RJ2, Cond.code yJ2_charAt_3b067 cJ2_charAt_3b067 2 (some .char), Cond.methodLink RJ2 67 yJ2_checkIndex_2214a, Cond.static yJ2_checkIndex_2214a, Cond.code yJ2_checkIndex_2214a cJ2_checkIndex_2214a 2 none, Cond.methodLink RJ2 48 yJ2_length_9d52b, Cond.static yJ2_length_9d52b]
def wsX3_init_r5 : List Cond := [Cond.code yJ2_length_9d52b cJ2_length_9d52b 1 (some .int), Cond.methodLink RJ2 414 yJ0_checkIndex_df160, Cond.methodLink RJ2 71 yJ2_getChar_3b067, Cond.static yJ2_getChar_3b067, Cond.code yJ2_getChar_3b067 cJ2_getChar_3b067 2 (some .char), Cond.fieldLink RJ2 44 "java/lang/StringUTF16" "$assertionsDisabled" "Z", Cond.fieldLink RJ2 59 "java/lang/StringUTF16" "HI_BYTE_SHIFT" "I", Cond.fieldLink RJ2 63 "java/lang/StringUTF16" "LO_BYTE_SHIFT" "I", Cond.methodLink RX12 287 yJ0_substring_37a41, Cond.instanceMethod yJ0_substring_37a41, Cond.selects RJ0 yJ0_substring_37a41 yJ0_substring_37a41, Cond.code yJ0_substring_37a41 cJ0_substring_37a41 5 (some (.object "java/lang/String")), Cond.methodLink RJ0 505 yJ0_length_8abf5, Cond.methodLink RJ0 521 yJ0_checkBoundsBeginEnd_23922, Cond.static yJ0_checkBoundsBeginEnd_23922, Cond.code yJ0_checkBoundsBeginEnd_23922 cJ0_checkBoundsBeginEnd_23922 3 none, Cond.methodLink RJ0 1062 yJ3_checkFromToIndex_8c36e, Cond.static yJ3_checkFromToIndex_8c36e, Cond.code yJ3_checkFromToIndex_8c36e cJ3_checkFromToIndex_8c36e 4 (some .int), Cond.methodLink RJ0 685 yJ1_newString_b4f7a, Cond.static yJ1_newString_b4f7a, Cond.code yJ1_newString_b4f7a cJ1_newString_b4f7a 3 (some (.object "java/lang/String")), Cond.classLink RJ1 1 RJ0, Cond.instantiable RJ0 4]
def wsX3_init_r6 : List Cond := [Cond.methodLink RJ1 232 yJ7_copyOfRange_39247, Cond.static yJ7_copyOfRange_39247, Cond.initialized RJ7, Cond.code yJ7_copyOfRange_39247 cJ7_copyOfRange_39247 3 (some (.array .byte)), Cond.methodLink RJ7 310 ⟨"[B", "clone", "()Ljava/lang/Object;"⟩, Cond.sameMethod "[B" "java/lang/Object" "clone" "()Ljava/lang/Object;", Cond.native ⟨"java/lang/Object", "clone", "()Ljava/lang/Object;"⟩, Cond.instanceMethod ⟨"java/lang/Object", "clone", "()Ljava/lang/Object;"⟩, Cond.selects "[B" ⟨"[B", "clone", "()Ljava/lang/Object;"⟩ ⟨"java/lang/Object", "clone", "()Ljava/lang/Object;"⟩, Cond.classLink RJ7 311 "[B", Cond.methodLink RJ7 339 yJ7_copyOfRangeByte_39247, Cond.static yJ7_copyOfRangeByte_39247, Cond.code yJ7_copyOfRangeByte_39247 cJ7_copyOfRangeByte_39247 5 (some (.array .byte)), Cond.methodLink RJ7 304 Lib.Math.min.name, Cond.static Lib.Math.min.name, Cond.initialized "java/lang/Math", Cond.code Lib.Math.min.name Lib.Math.min.code 2 (some .int), Cond.methodLink RJ7 150 arraycopyName, Cond.native arraycopyName, Cond.static arraycopyName, Cond.initialized "java/lang/System", Cond.methodLink RJ7 343 yJ7_checkLength_df160, Cond.static yJ7_checkLength_df160, Cond.code yJ7_checkLength_df160 cJ7_checkLength_df160 2 none]
def wsX3_init_r7 : List Cond := [Cond.methodLink RJ1 112 yJ0_init_031fb, Cond.instanceMethod yJ0_init_031fb, Cond.code yJ0_init_031fb cJ0_init_031fb 3 none, Cond.methodLink RJ0 1 objectInit, Cond.methodLink RJ0 689 yJ2_newString_b4f7a, Cond.static yJ2_newString_b4f7a, Cond.code yJ2_newString_b4f7a cJ2_newString_b4f7a 5 (some (.object "java/lang/String")), Cond.fieldLink RJ2 251 "java/lang/String" "COMPACT_STRINGS" "Z", Cond.classLink RJ2 3 RJ0, Cond.methodLink RJ2 257 yJ2_compress_39247, Cond.static yJ2_compress_39247, Cond.code yJ2_compress_39247 cJ2_compress_39247 6 (some (.array .byte)), Cond.methodLink RJ2 123 yJ2_compress_5af95, Cond.static yJ2_compress_5af95, Cond.code yJ2_compress_5af95 cJ2_compress_5af95 7 (some .int), Cond.methodLink RJ2 173 yJ2_checkBoundsOffCount_d044e, Cond.static yJ2_checkBoundsOffCount_d044e, Cond.code yJ2_checkBoundsOffCount_d044e cJ2_checkBoundsOffCount_d044e 3 none, Cond.methodLink RJ2 419 yJ0_checkBoundsOffCount_cabcc, Cond.static yJ0_checkBoundsOffCount_cabcc, Cond.code yJ0_checkBoundsOffCount_cabcc cJ0_checkBoundsOffCount_cabcc 3 (some .int), Cond.methodLink RJ0 1065 yJ3_checkFromIndexSize_8c36e, Cond.static yJ3_checkFromIndexSize_8c36e, Cond.code yJ3_checkFromIndexSize_8c36e cJ3_checkFromIndexSize_8c36e 4 (some .int)]
def wsX3_init_r8 : List Cond := [Cond.methodLink RJ2 11 yJ2_newBytesLength_0f7a4, Cond.static yJ2_newBytesLength_0f7a4, Cond.code yJ2_newBytesLength_0f7a4 cJ2_newBytesLength_0f7a4 1 (some .int), Cond.constant RJ2 20 (1073741823), Cond.methodLink RJ2 126 yJ7_copyOfRange_39247, Cond.methodLink RJ2 259 yJ2_coderFromArrayLen_85cad, Cond.static yJ2_coderFromArrayLen_85cad, Cond.code yJ2_coderFromArrayLen_85cad cJ2_coderFromArrayLen_85cad 2 (some .byte), Cond.methodLink RJ2 263 yJ0_init_031fb, Cond.methodLink RX3 79 yX5_make, Cond.static yX5_make, Cond.initialized RX5, Cond.code yX5_make cX5_make 4 (some (.object "GoalHouse$Proc")), Cond.classLink RX5 11 RX5, Cond.instantiable RX5 13, Cond.fieldLink RX5 30 "GoalHouse$Proc" "index" "I", Cond.classLink RX5 33 RX11, Cond.fieldLink RX5 38 "GoalHouse$Proc" "val" "LGoalHouse$Val;", Cond.fieldLink RX5 42 "GoalHouse$Val" "proc" "LGoalHouse$Proc;", Cond.methodLink RX5 27 yX5_init, Cond.instanceMethod yX5_init, Cond.code yX5_init cX5_init 3 none, Cond.methodLink RX5 1 objectInit, Cond.classLink RX5 7 RJx4a65c]
def wsX3_init_r9 : List Cond := [Cond.instantiable RJx4a65c 3, Cond.initialized RJx4a65c, Cond.fieldLink RX5 10 "GoalHouse$Proc" "names" "Ljava/util/ArrayList;", Cond.fieldLink RX5 16 "GoalHouse$Proc" "statics" "Ljava/util/ArrayList;", Cond.fieldLink RX5 19 "GoalHouse$Proc" "name" "Ljava/lang/String;", Cond.fieldLink RX5 23 "GoalHouse$Proc" "kind" "I", Cond.methodLink RX5 9 yJx4a65c_init_da8c8, Cond.instanceMethod yJx4a65c_init_da8c8, Cond.code yJx4a65c_init_da8c8 cJx4a65c_init_da8c8 1 none, Cond.fieldLink RJx4a65c 39 "java/util/ArrayList" "DEFAULTCAPACITY_EMPTY_ELEMENTDATA" "[Ljava/lang/Object;", Cond.fieldLink RJx4a65c 9 "java/util/ArrayList" "elementData" "[Ljava/lang/Object;", Cond.methodLink RJx4a65c 1 yJxc12de_init_da8c8, Cond.instanceMethod yJxc12de_init_da8c8, Cond.initialized RJxc12de, Cond.code yJxc12de_init_da8c8 cJxc12de_init_da8c8 1 none, Cond.fieldLink RJxc12de 7 "java/util/AbstractList" "modCount" "I", Cond.methodLink RJxc12de 1 yJxa1e45_init_da8c8, Cond.instanceMethod yJxa1e45_init_da8c8, Cond.initialized RJxa1e45, Cond.code yJxa1e45_init_da8c8 cJxa1e45_init_da8c8 1 none, Cond.methodLink RJxa1e45 1 objectInit, Cond.methodLink RX5 35 yX11_init, Cond.methodLink RX3 82 yX3_range, Cond.static yX3_range]
def wsX3_init_r10 : List Cond := [Cond.initialized RX3, Cond.code yX3_range cX3_range 6 (some (.object "GoalHouse$Val")), Cond.methodLink RX3 92 yX3_emptySet, Cond.static yX3_emptySet, Cond.code yX3_emptySet cX3_emptySet 1 (some (.object "GoalHouse$Val")), Cond.arrayClass .long, Cond.fieldLink RX3 99 "GoalHouse$Val" "bits" "[J", Cond.methodLink RX3 96 yX11_put, Cond.instanceMethod yX11_put, Cond.selects RX11 yX11_put yX11_put, Cond.code yX11_put cX11_put 3 none, Cond.fieldLink RX11 34 "GoalHouse$Val" "bits" "[J"]
def wsX3_init : List Cond := .code yX3_init cX3_init 3 none :: ((wsX3_init_r1 ++ (wsX3_init_r2 ++ (wsX3_init_r3 ++ (wsX3_init_r4 ++ (wsX3_init_r5 ++ (wsX3_init_r6 ++ (wsX3_init_r7 ++ (wsX3_init_r8 ++ (wsX3_init_r9 ++ wsX3_init_r10))))))))) ++ wsX110 ++ wsX30 ++ wsX100 ++ wsJ00 ++ wsX50 ++ wsJx4a65c0)
set_option maxRecDepth 20000 in
theorem ggX3_init_X11_init : GoodIn wsX3_init wsX11_init := goodIn_r _ [27, 28, 2, 3, 29, 229, 230, 231, 232, 233, 234, 235, 236, 237, 238, 239] (by decide +kernel) (by decide +kernel)
set_option maxRecDepth 20000 in
theorem gX3_init_X11_init : GoodIn wsX3_init (wsX11_init) := ggX3_init_X11_init
set_option maxRecDepth 20000 in
theorem ggX3_init_X11_text : GoodIn wsX3_init wsX11_text := goodIn_r _ [32, 33, 5, 6, 34, 35, 36, 37, 26, 27, 28, 2, 3, 29, 229, 230, 231, 232, 233, 234, 235, 236, 237, 238, 239] (by decide +kernel) (by decide +kernel)
set_option maxRecDepth 20000 in
theorem gX3_init_X11_text : GoodIn wsX3_init (va_wsS RX3 20 yX11_text wsX11_text) := goodIn_app (goodIn_of _ (by decide +kernel)) ggX3_init_X11_text
set_option maxRecDepth 20000 in
theorem ggX3_init_X10_make : GoodIn wsX3_init wsX10_make := goodIn_r _ [41, 42, 43, 40, 44, 5, 6, 45, 46, 47, 26, 27, 28, 2, 3, 29, 48, 49, 50, 51, 52, 261, 262, 263, 264, 265, 266, 267, 268, 269, 270, 271, 272, 273, 274, 275, 276, 277, 278, 279, 229, 230, 231, 232, 233, 234, 235, 236, 237, 238, 239] (by decide +kernel) (by decide +kernel)
set_option maxRecDepth 20000 in
theorem gX3_init_X10_make : GoodIn wsX3_init (va_wsS RX3 63 yX10_make wsX10_make) := goodIn_app (goodIn_of _ (by decide +kernel)) ggX3_init_X10_make
set_option maxRecDepth 20000 in
theorem ggX3_init_X12_wordOf : GoodIn wsX3_init wsX12_wordOf := goodIn_r _ [55, 56, 57, 58, 59, 60, 61, 62, 63, 64, 65, 66, 67, 68, 69, 70, 71, 72, 73, 74, 75, 76, 77, 78, 79, 80, 81, 82, 83, 84, 85, 86, 87, 88, 89, 90, 91, 92, 93, 94, 95, 96, 97, 98, 99, 100, 101, 102, 103, 104, 105, 106, 107, 108, 109, 110, 111, 112, 113, 114, 115, 116, 117, 118, 119, 120, 121, 122, 123, 124, 125, 126, 127, 128, 129, 130, 131, 132, 133, 8, 134, 135, 136, 137, 138, 139, 140, 141, 142, 143, 144, 145, 146, 147, 148, 2, 3, 149, 150, 151, 152, 153, 154, 155, 156, 157, 158, 159, 160, 161, 162, 163, 164, 165, 166, 167, 168, 169, 170, 171, 172, 173, 174, 175, 176, 177, 280, 281, 282, 283] (by decide +kernel) (by decide +kernel)
set_option maxRecDepth 20000 in
theorem gX3_init_X12_wordOf_n75 : GoodIn wsX3_init (wsX12_wordOf) := ggX3_init_X12_wordOf
set_option maxRecDepth 20000 in
theorem ggX3_init_X5_make : GoodIn wsX3_init wsX5_make := goodIn_r _ [181, 182, 183, 180, 184, 185, 5, 6, 186, 187, 188, 189, 190, 191, 2, 3, 192, 193, 194, 195, 196, 197, 198, 199, 200, 201, 202, 203, 204, 205, 206, 207, 208, 209, 210, 211, 212, 213, 214, 26, 27, 28, 29, 284, 285, 286, 287, 288, 289, 290, 291, 292, 293, 294, 295, 296, 229, 230, 231, 232, 233, 234, 235, 236, 237, 238, 239, 297, 298, 299] (by decide +kernel) (by decide +kernel)
set_option maxRecDepth 20000 in
theorem gX3_init_X5_make : GoodIn wsX3_init (va_wsS RX3 79 yX5_make wsX5_make) := goodIn_app (goodIn_of _ (by decide +kernel)) ggX3_init_X5_make
set_option maxRecDepth 20000 in
theorem ggX3_init_X3_range : GoodIn wsX3_init wsX3_range := goodIn_r _ [218, 219, 220, 217, 221, 4, 5, 6, 222, 223, 25, 26, 27, 28, 2, 3, 29, 224, 225, 226, 227, 228, 229, 230, 231, 232, 233, 234, 235, 236, 237, 238, 239] (by decide +kernel) (by decide +kernel)
set_option maxRecDepth 20000 in
theorem gX3_init_X3_range : GoodIn wsX3_init (va_wsS RX3 82 yX3_range wsX3_range) := goodIn_app (goodIn_of _ (by decide +kernel)) ggX3_init_X3_range
theorem dX3_init_0 : decode cX3_init 0 = .ok (.aload_n 0, 1) := by decide +kernel
theorem dX3_init_1 : decode cX3_init 1 = .ok (.invokespecial 3, 3) := by decide +kernel
theorem dX3_init_4 : decode cX3_init 4 = .ok (.aload_n 0, 1) := by decide +kernel
theorem dX3_init_5 : decode cX3_init 5 = .ok (.new 9, 3) := by decide +kernel
theorem dX3_init_8 : decode cX3_init 8 = .ok (.dup, 1) := by decide +kernel
theorem dX3_init_9 : decode cX3_init 9 = .ok (.iconst 0, 1) := by decide +kernel
theorem dX3_init_10 : decode cX3_init 10 = .ok (.invokespecial 11, 3) := by decide +kernel
theorem dX3_init_13 : decode cX3_init 13 = .ok (.putfield 14, 3) := by decide +kernel
theorem dX3_init_16 : decode cX3_init 16 = .ok (.aload_n 0, 1) := by decide +kernel
theorem dX3_init_17 : decode cX3_init 17 = .ok (.iconst 0, 1) := by decide +kernel
theorem dX3_init_18 : decode cX3_init 18 = .ok (.newarray .byte, 2) := by decide +kernel
theorem dX3_init_20 : decode cX3_init 20 = .ok (.iconst 0, 1) := by decide +kernel
theorem dX3_init_21 : decode cX3_init 21 = .ok (.iconst 0, 1) := by decide +kernel
theorem dX3_init_22 : decode cX3_init 22 = .ok (.invokestatic 20, 3) := by decide +kernel
theorem dX3_init_25 : decode cX3_init 25 = .ok (.putfield 24, 3) := by decide +kernel
theorem dX3_init_28 : decode cX3_init 28 = .ok (.aload_n 0, 1) := by decide +kernel
theorem dX3_init_29 : decode cX3_init 29 = .ok (.sipush 256, 3) := by decide +kernel
theorem dX3_init_32 : decode cX3_init 32 = .ok (.anewarray 9, 3) := by decide +kernel
theorem dX3_init_35 : decode cX3_init 35 = .ok (.putfield 27, 3) := by decide +kernel
theorem dX3_init_38 : decode cX3_init 38 = .ok (.aload_n 0, 1) := by decide +kernel
theorem dX3_init_39 : decode cX3_init 39 = .ok (.bipush 8, 2) := by decide +kernel
theorem dX3_init_41 : decode cX3_init 41 = .ok (.anewarray 9, 3) := by decide +kernel
theorem dX3_init_44 : decode cX3_init 44 = .ok (.putfield 31, 3) := by decide +kernel
theorem dX3_init_47 : decode cX3_init 47 = .ok (.aload_n 0, 1) := by decide +kernel
theorem dX3_init_48 : decode cX3_init 48 = .ok (.bipush 48, 2) := by decide +kernel
theorem dX3_init_50 : decode cX3_init 50 = .ok (.anewarray 34, 3) := by decide +kernel
theorem dX3_init_53 : decode cX3_init 53 = .ok (.putfield 36, 3) := by decide +kernel
theorem dX3_init_56 : decode cX3_init 56 = .ok (.aload_n 0, 1) := by decide +kernel
theorem dX3_init_57 : decode cX3_init 57 = .ok (.iconst 4, 1) := by decide +kernel
theorem dX3_init_58 : decode cX3_init 58 = .ok (.anewarray 9, 3) := by decide +kernel
theorem dX3_init_61 : decode cX3_init 61 = .ok (.putfield 40, 3) := by decide +kernel
theorem dX3_init_64 : decode cX3_init 64 = .ok (.aload_n 0, 1) := by decide +kernel
theorem dX3_init_65 : decode cX3_init 65 = .ok (.bipush 16, 2) := by decide +kernel
theorem dX3_init_67 : decode cX3_init 67 = .ok (.newarray .int, 2) := by decide +kernel
theorem dX3_init_69 : decode cX3_init 69 = .ok (.putfield 43, 3) := by decide +kernel
theorem dX3_init_72 : decode cX3_init 72 = .ok (.aload_n 0, 1) := by decide +kernel
theorem dX3_init_73 : decode cX3_init 73 = .ok (.bipush 16, 2) := by decide +kernel
theorem dX3_init_75 : decode cX3_init 75 = .ok (.newarray .int, 2) := by decide +kernel
theorem dX3_init_77 : decode cX3_init 77 = .ok (.putfield 47, 3) := by decide +kernel
theorem dX3_init_80 : decode cX3_init 80 = .ok (.aload_n 0, 1) := by decide +kernel
theorem dX3_init_81 : decode cX3_init 81 = .ok (.bipush 16, 2) := by decide +kernel
theorem dX3_init_83 : decode cX3_init 83 = .ok (.newarray .int, 2) := by decide +kernel
theorem dX3_init_85 : decode cX3_init 85 = .ok (.putfield 50, 3) := by decide +kernel
theorem dX3_init_88 : decode cX3_init 88 = .ok (.aload_n 0, 1) := by decide +kernel
theorem dX3_init_89 : decode cX3_init 89 = .ok (.sipush 2100, 3) := by decide +kernel
theorem dX3_init_92 : decode cX3_init 92 = .ok (.newarray .byte, 2) := by decide +kernel
theorem dX3_init_94 : decode cX3_init 94 = .ok (.putfield 53, 3) := by decide +kernel
theorem dX3_init_97 : decode cX3_init 97 = .ok (.aload_n 0, 1) := by decide +kernel
theorem dX3_init_98 : decode cX3_init 98 = .ok (.bipush 32, 2) := by decide +kernel
theorem dX3_init_100 : decode cX3_init 100 = .ok (.anewarray 9, 3) := by decide +kernel
theorem dX3_init_103 : decode cX3_init 103 = .ok (.putfield 57, 3) := by decide +kernel
theorem dX3_init_106 : decode cX3_init 106 = .ok (.aload_n 0, 1) := by decide +kernel
theorem dX3_init_107 : decode cX3_init 107 = .ok (.bipush 32, 2) := by decide +kernel
theorem dX3_init_109 : decode cX3_init 109 = .ok (.anewarray 9, 3) := by decide +kernel
theorem dX3_init_112 : decode cX3_init 112 = .ok (.putfield 60, 3) := by decide +kernel
theorem dX3_init_115 : decode cX3_init 115 = .ok (.aload_n 0, 1) := by decide +kernel
theorem dX3_init_116 : decode cX3_init 116 = .ok (.bipush 6, 2) := by decide +kernel
theorem dX3_init_118 : decode cX3_init 118 = .ok (.invokestatic 63, 3) := by decide +kernel
theorem dX3_init_121 : decode cX3_init 121 = .ok (.putfield 69, 3) := by decide +kernel
theorem dX3_init_124 : decode cX3_init 124 = .ok (.sipush 256, 3) := by decide +kernel
theorem dX3_init_127 : decode cX3_init 127 = .ok (.newarray .byte, 2) := by decide +kernel
theorem dX3_init_129 : decode cX3_init 129 = .ok (.astore_n 1, 1) := by decide +kernel
theorem dX3_init_130 : decode cX3_init 130 = .ok (.iconst 0, 1) := by decide +kernel
theorem dX3_init_131 : decode cX3_init 131 = .ok (.istore_n 2, 1) := by decide +kernel
theorem dX3_init_132 : decode cX3_init 132 = .ok (.iload_n 2, 1) := by decide +kernel
theorem dX3_init_133 : decode cX3_init 133 = .ok (.sipush 256, 3) := by decide +kernel
theorem dX3_init_136 : decode cX3_init 136 = .ok (.if_icmp .ge 26, 3) := by decide +kernel
theorem dX3_init_139 : decode cX3_init 139 = .ok (.aload_n 1, 1) := by decide +kernel
theorem dX3_init_140 : decode cX3_init 140 = .ok (.iload_n 2, 1) := by decide +kernel
theorem dX3_init_141 : decode cX3_init 141 = .ok (.iload_n 2, 1) := by decide +kernel
theorem dX3_init_142 : decode cX3_init 142 = .ok (.i2b, 1) := by decide +kernel
theorem dX3_init_143 : decode cX3_init 143 = .ok (.bastore, 1) := by decide +kernel
theorem dX3_init_144 : decode cX3_init 144 = .ok (.aload_n 0, 1) := by decide +kernel
theorem dX3_init_145 : decode cX3_init 145 = .ok (.getfield 27, 3) := by decide +kernel
theorem dX3_init_148 : decode cX3_init 148 = .ok (.iload_n 2, 1) := by decide +kernel
theorem dX3_init_149 : decode cX3_init 149 = .ok (.aload_n 1, 1) := by decide +kernel
theorem dX3_init_150 : decode cX3_init 150 = .ok (.iload_n 2, 1) := by decide +kernel
theorem dX3_init_151 : decode cX3_init 151 = .ok (.iconst 1, 1) := by decide +kernel
theorem dX3_init_152 : decode cX3_init 152 = .ok (.invokestatic 20, 3) := by decide +kernel
theorem dX3_init_155 : decode cX3_init 155 = .ok (.aastore, 1) := by decide +kernel
theorem dX3_init_156 : decode cX3_init 156 = .ok (.iinc 2 1, 3) := by decide +kernel
theorem dX3_init_159 : decode cX3_init 159 = .ok (.goto (-27), 3) := by decide +kernel
theorem dX3_init_162 : decode cX3_init 162 = .ok (.iconst 0, 1) := by decide +kernel
theorem dX3_init_163 : decode cX3_init 163 = .ok (.istore_n 2, 1) := by decide +kernel
theorem dX3_init_164 : decode cX3_init 164 = .ok (.iload_n 2, 1) := by decide +kernel
theorem dX3_init_165 : decode cX3_init 165 = .ok (.aload_n 0, 1) := by decide +kernel
theorem dX3_init_166 : decode cX3_init 166 = .ok (.getfield 40, 3) := by decide +kernel
theorem dX3_init_169 : decode cX3_init 169 = .ok (.arraylength, 1) := by decide +kernel
theorem dX3_init_170 : decode cX3_init 170 = .ok (.if_icmp .ge 25, 3) := by decide +kernel
theorem dX3_init_173 : decode cX3_init 173 = .ok (.aload_n 0, 1) := by decide +kernel
theorem dX3_init_174 : decode cX3_init 174 = .ok (.getfield 40, 3) := by decide +kernel
theorem dX3_init_177 : decode cX3_init 177 = .ok (.iload_n 2, 1) := by decide +kernel
theorem dX3_init_178 : decode cX3_init 178 = .ok (.sipush 520, 3) := by decide +kernel
theorem dX3_init_181 : decode cX3_init 181 = .ok (.newarray .byte, 2) := by decide +kernel
theorem dX3_init_183 : decode cX3_init 183 = .ok (.iconst 0, 1) := by decide +kernel
theorem dX3_init_184 : decode cX3_init 184 = .ok (.iconst 0, 1) := by decide +kernel
theorem dX3_init_185 : decode cX3_init 185 = .ok (.invokestatic 20, 3) := by decide +kernel
theorem dX3_init_188 : decode cX3_init 188 = .ok (.aastore, 1) := by decide +kernel
theorem dX3_init_189 : decode cX3_init 189 = .ok (.iinc 2 1, 3) := by decide +kernel
theorem dX3_init_192 : decode cX3_init 192 = .ok (.goto (-28), 3) := by decide +kernel
theorem dX3_init_195 : decode cX3_init 195 = .ok (.iconst 0, 1) := by decide +kernel
theorem dX3_init_196 : decode cX3_init 196 = .ok (.istore_n 2, 1) := by decide +kernel
theorem dX3_init_197 : decode cX3_init 197 = .ok (.iload_n 2, 1) := by decide +kernel
theorem dX3_init_198 : decode cX3_init 198 = .ok (.bipush 48, 2) := by decide +kernel
theorem dX3_init_200 : decode cX3_init 200 = .ok (.if_icmp .ge 26, 3) := by decide +kernel
theorem dX3_init_203 : decode cX3_init 203 = .ok (.aload_n 0, 1) := by decide +kernel
theorem dX3_init_204 : decode cX3_init 204 = .ok (.getfield 36, 3) := by decide +kernel
theorem dX3_init_207 : decode cX3_init 207 = .ok (.iload_n 2, 1) := by decide +kernel
theorem dX3_init_208 : decode cX3_init 208 = .ok (.ldc 73, 2) := by decide +kernel
theorem dX3_init_210 : decode cX3_init 210 = .ok (.iload_n 2, 1) := by decide +kernel
theorem dX3_init_211 : decode cX3_init 211 = .ok (.invokestatic 75, 3) := by decide +kernel
theorem dX3_init_214 : decode cX3_init 214 = .ok (.iconst 2, 1) := by decide +kernel
theorem dX3_init_215 : decode cX3_init 215 = .ok (.iload_n 2, 1) := by decide +kernel
theorem dX3_init_216 : decode cX3_init 216 = .ok (.invokestatic 79, 3) := by decide +kernel
theorem dX3_init_219 : decode cX3_init 219 = .ok (.aastore, 1) := by decide +kernel
theorem dX3_init_220 : decode cX3_init 220 = .ok (.iinc 2 1, 3) := by decide +kernel
theorem dX3_init_223 : decode cX3_init 223 = .ok (.goto (-26), 3) := by decide +kernel
theorem dX3_init_226 : decode cX3_init 226 = .ok (.aload_n 0, 1) := by decide +kernel
theorem dX3_init_227 : decode cX3_init 227 = .ok (.getfield 31, 3) := by decide +kernel
theorem dX3_init_230 : decode cX3_init 230 = .ok (.iconst 0, 1) := by decide +kernel
theorem dX3_init_231 : decode cX3_init 231 = .ok (.bipush 65, 2) := by decide +kernel
theorem dX3_init_233 : decode cX3_init 233 = .ok (.bipush 90, 2) := by decide +kernel
theorem dX3_init_235 : decode cX3_init 235 = .ok (.bipush 97, 2) := by decide +kernel
theorem dX3_init_237 : decode cX3_init 237 = .ok (.bipush 122, 2) := by decide +kernel
theorem dX3_init_239 : decode cX3_init 239 = .ok (.invokestatic 82, 3) := by decide +kernel
theorem dX3_init_242 : decode cX3_init 242 = .ok (.aastore, 1) := by decide +kernel
theorem dX3_init_243 : decode cX3_init 243 = .ok (.aload_n 0, 1) := by decide +kernel
theorem dX3_init_244 : decode cX3_init 244 = .ok (.getfield 31, 3) := by decide +kernel
theorem dX3_init_247 : decode cX3_init 247 = .ok (.iconst 1, 1) := by decide +kernel
theorem dX3_init_248 : decode cX3_init 248 = .ok (.bipush 48, 2) := by decide +kernel
theorem dX3_init_250 : decode cX3_init 250 = .ok (.bipush 57, 2) := by decide +kernel
theorem dX3_init_252 : decode cX3_init 252 = .ok (.bipush 48, 2) := by decide +kernel
theorem dX3_init_254 : decode cX3_init 254 = .ok (.bipush 57, 2) := by decide +kernel
theorem dX3_init_256 : decode cX3_init 256 = .ok (.invokestatic 82, 3) := by decide +kernel
theorem dX3_init_259 : decode cX3_init 259 = .ok (.aastore, 1) := by decide +kernel
theorem dX3_init_260 : decode cX3_init 260 = .ok (.aload_n 0, 1) := by decide +kernel
theorem dX3_init_261 : decode cX3_init 261 = .ok (.getfield 31, 3) := by decide +kernel
theorem dX3_init_264 : decode cX3_init 264 = .ok (.iconst 2, 1) := by decide +kernel
theorem dX3_init_265 : decode cX3_init 265 = .ok (.bipush 97, 2) := by decide +kernel
theorem dX3_init_267 : decode cX3_init 267 = .ok (.bipush 122, 2) := by decide +kernel
theorem dX3_init_269 : decode cX3_init 269 = .ok (.bipush 97, 2) := by decide +kernel
theorem dX3_init_271 : decode cX3_init 271 = .ok (.bipush 122, 2) := by decide +kernel
theorem dX3_init_273 : decode cX3_init 273 = .ok (.invokestatic 82, 3) := by decide +kernel
theorem dX3_init_276 : decode cX3_init 276 = .ok (.aastore, 1) := by decide +kernel
theorem dX3_init_277 : decode cX3_init 277 = .ok (.aload_n 0, 1) := by decide +kernel
theorem dX3_init_278 : decode cX3_init 278 = .ok (.getfield 31, 3) := by decide +kernel
theorem dX3_init_281 : decode cX3_init 281 = .ok (.iconst 3, 1) := by decide +kernel
theorem dX3_init_282 : decode cX3_init 282 = .ok (.bipush 65, 2) := by decide +kernel
theorem dX3_init_284 : decode cX3_init 284 = .ok (.bipush 90, 2) := by decide +kernel
theorem dX3_init_286 : decode cX3_init 286 = .ok (.bipush 65, 2) := by decide +kernel
theorem dX3_init_288 : decode cX3_init 288 = .ok (.bipush 90, 2) := by decide +kernel
theorem dX3_init_290 : decode cX3_init 290 = .ok (.invokestatic 82, 3) := by decide +kernel
theorem dX3_init_293 : decode cX3_init 293 = .ok (.aastore, 1) := by decide +kernel
theorem dX3_init_294 : decode cX3_init 294 = .ok (.aload_n 0, 1) := by decide +kernel
theorem dX3_init_295 : decode cX3_init 295 = .ok (.getfield 31, 3) := by decide +kernel
theorem dX3_init_298 : decode cX3_init 298 = .ok (.iconst 4, 1) := by decide +kernel
theorem dX3_init_299 : decode cX3_init 299 = .ok (.iconst 0, 1) := by decide +kernel
theorem dX3_init_300 : decode cX3_init 300 = .ok (.sipush 255, 3) := by decide +kernel
theorem dX3_init_303 : decode cX3_init 303 = .ok (.iconst 0, 1) := by decide +kernel
theorem dX3_init_304 : decode cX3_init 304 = .ok (.sipush 255, 3) := by decide +kernel
theorem dX3_init_307 : decode cX3_init 307 = .ok (.invokestatic 82, 3) := by decide +kernel
theorem dX3_init_310 : decode cX3_init 310 = .ok (.aastore, 1) := by decide +kernel
theorem dX3_init_311 : decode cX3_init 311 = .ok (.aload_n 0, 1) := by decide +kernel
theorem dX3_init_312 : decode cX3_init 312 = .ok (.getfield 31, 3) := by decide +kernel
theorem dX3_init_315 : decode cX3_init 315 = .ok (.iconst 5, 1) := by decide +kernel
theorem dX3_init_316 : decode cX3_init 316 = .ok (.bipush 40, 2) := by decide +kernel
theorem dX3_init_318 : decode cX3_init 318 = .ok (.bipush 40, 2) := by decide +kernel
theorem dX3_init_320 : decode cX3_init 320 = .ok (.bipush 40, 2) := by decide +kernel
theorem dX3_init_322 : decode cX3_init 322 = .ok (.bipush 40, 2) := by decide +kernel
theorem dX3_init_324 : decode cX3_init 324 = .ok (.invokestatic 82, 3) := by decide +kernel
theorem dX3_init_327 : decode cX3_init 327 = .ok (.aastore, 1) := by decide +kernel
theorem dX3_init_328 : decode cX3_init 328 = .ok (.aload_n 0, 1) := by decide +kernel
theorem dX3_init_329 : decode cX3_init 329 = .ok (.getfield 31, 3) := by decide +kernel
theorem dX3_init_332 : decode cX3_init 332 = .ok (.bipush 6, 2) := by decide +kernel
theorem dX3_init_334 : decode cX3_init 334 = .ok (.bipush 41, 2) := by decide +kernel
theorem dX3_init_336 : decode cX3_init 336 = .ok (.bipush 41, 2) := by decide +kernel
theorem dX3_init_338 : decode cX3_init 338 = .ok (.bipush 41, 2) := by decide +kernel
theorem dX3_init_340 : decode cX3_init 340 = .ok (.bipush 41, 2) := by decide +kernel
theorem dX3_init_342 : decode cX3_init 342 = .ok (.invokestatic 82, 3) := by decide +kernel
theorem dX3_init_345 : decode cX3_init 345 = .ok (.aastore, 1) := by decide +kernel
theorem dX3_init_346 : decode cX3_init 346 = .ok (.aload_n 0, 1) := by decide +kernel
theorem dX3_init_347 : decode cX3_init 347 = .ok (.getfield 31, 3) := by decide +kernel
theorem dX3_init_350 : decode cX3_init 350 = .ok (.bipush 7, 2) := by decide +kernel
theorem dX3_init_352 : decode cX3_init 352 = .ok (.bipush 32, 2) := by decide +kernel
theorem dX3_init_354 : decode cX3_init 354 = .ok (.bipush 32, 2) := by decide +kernel
theorem dX3_init_356 : decode cX3_init 356 = .ok (.bipush 32, 2) := by decide +kernel
theorem dX3_init_358 : decode cX3_init 358 = .ok (.bipush 32, 2) := by decide +kernel
theorem dX3_init_360 : decode cX3_init 360 = .ok (.invokestatic 82, 3) := by decide +kernel
theorem dX3_init_363 : decode cX3_init 363 = .ok (.aastore, 1) := by decide +kernel
theorem dX3_init_364 : decode cX3_init 364 = .ok (.aload_n 0, 1) := by decide +kernel
theorem dX3_init_365 : decode cX3_init 365 = .ok (.aload_n 0, 1) := by decide +kernel
theorem dX3_init_366 : decode cX3_init 366 = .ok (.getfield 14, 3) := by decide +kernel
theorem dX3_init_369 : decode cX3_init 369 = .ok (.putfield 86, 3) := by decide +kernel
theorem dX3_init_372 : decode cX3_init 372 = .ok (.aload_n 0, 1) := by decide +kernel
theorem dX3_init_373 : decode cX3_init 373 = .ok (.aload_n 0, 1) := by decide +kernel
theorem dX3_init_374 : decode cX3_init 374 = .ok (.getfield 14, 3) := by decide +kernel
theorem dX3_init_377 : decode cX3_init 377 = .ok (.putfield 89, 3) := by decide +kernel
theorem dX3_init_380 : decode cX3_init 380 = .ok (.return_, 1) := by decide +kernel
set_option maxRecDepth 20000 in
theorem ggX3_range_X3_emptySet : GoodIn wsX3_range wsX3_emptySet := goodIn_r _ [4, 5, 6, 7, 8, 9, 10, 11, 12, 13, 14, 15, 16, 22, 23, 24, 25, 26, 27, 28, 29, 30, 31, 32] (by decide +kernel) (by decide +kernel)
set_option maxRecDepth 20000 in
theorem gX3_range_X3_emptySet : GoodIn wsX3_range (va_wsS RX3 92 yX3_emptySet wsX3_emptySet) := goodIn_app (goodIn_of _ (by decide +kernel)) ggX3_range_X3_emptySet
set_option maxRecDepth 20000 in
theorem ggX3_range_X11_put : GoodIn wsX3_range wsX11_put := goodIn_r _ [20, 21, 22, 23, 24, 25, 26, 27, 28, 29, 30, 31, 32] (by decide +kernel) (by decide +kernel)
set_option maxRecDepth 20000 in
theorem gX3_range_X11_put : GoodIn wsX3_range (wsV RX3 96 RX11 yX11_put wsX11_put) := goodIn_app (goodIn_of _ (by decide +kernel)) ggX3_range_X11_put
theorem dX3_range_0 : decode cX3_range 0 = .ok (.invokestatic 92, 3) := by decide +kernel
theorem dX3_range_3 : decode cX3_range 3 = .ok (.astore 4, 2) := by decide +kernel
theorem dX3_range_5 : decode cX3_range 5 = .ok (.iconst 0, 1) := by decide +kernel
theorem dX3_range_6 : decode cX3_range 6 = .ok (.istore 5, 2) := by decide +kernel
theorem dX3_range_8 : decode cX3_range 8 = .ok (.iload 5, 2) := by decide +kernel
theorem dX3_range_10 : decode cX3_range 10 = .ok (.sipush 256, 3) := by decide +kernel
theorem dX3_range_13 : decode cX3_range 13 = .ok (.if_icmp .ge 40, 3) := by decide +kernel
theorem dX3_range_16 : decode cX3_range 16 = .ok (.iload 5, 2) := by decide +kernel
theorem dX3_range_18 : decode cX3_range 18 = .ok (.iload_n 0, 1) := by decide +kernel
theorem dX3_range_19 : decode cX3_range 19 = .ok (.if_icmp .lt 9, 3) := by decide +kernel
theorem dX3_range_22 : decode cX3_range 22 = .ok (.iload 5, 2) := by decide +kernel
theorem dX3_range_24 : decode cX3_range 24 = .ok (.iload_n 1, 1) := by decide +kernel
theorem dX3_range_25 : decode cX3_range 25 = .ok (.if_icmp .le 15, 3) := by decide +kernel
theorem dX3_range_28 : decode cX3_range 28 = .ok (.iload 5, 2) := by decide +kernel
theorem dX3_range_30 : decode cX3_range 30 = .ok (.iload_n 2, 1) := by decide +kernel
theorem dX3_range_31 : decode cX3_range 31 = .ok (.if_icmp .lt 16, 3) := by decide +kernel
theorem dX3_range_34 : decode cX3_range 34 = .ok (.iload 5, 2) := by decide +kernel
theorem dX3_range_36 : decode cX3_range 36 = .ok (.iload_n 3, 1) := by decide +kernel
theorem dX3_range_37 : decode cX3_range 37 = .ok (.if_icmp .gt 10, 3) := by decide +kernel
theorem dX3_range_40 : decode cX3_range 40 = .ok (.aload 4, 2) := by decide +kernel
theorem dX3_range_42 : decode cX3_range 42 = .ok (.iload 5, 2) := by decide +kernel
theorem dX3_range_44 : decode cX3_range 44 = .ok (.invokevirtual 96, 3) := by decide +kernel
theorem dX3_range_47 : decode cX3_range 47 = .ok (.iinc 5 1, 3) := by decide +kernel
theorem dX3_range_50 : decode cX3_range 50 = .ok (.goto (-42), 3) := by decide +kernel
theorem dX3_range_53 : decode cX3_range 53 = .ok (.aload 4, 2) := by decide +kernel
theorem dX3_range_55 : decode cX3_range 55 = .ok (.areturn, 1) := by decide +kernel
set_option maxRecDepth 20000 in
theorem ggX3_emptySet_X11_init : GoodIn wsX3_emptySet wsX11_init := goodIn_r _ [8, 9, 10, 11, 12, 13, 14, 15, 16, 17, 18, 19, 20, 21, 22, 23] (by decide +kernel) (by decide +kernel)
set_option maxRecDepth 20000 in
theorem gX3_emptySet_X11_init : GoodIn wsX3_emptySet (wsX11_init) := ggX3_emptySet_X11_init
theorem dX3_emptySet_0 : decode cX3_emptySet 0 = .ok (.new 9, 3) := by decide +kernel
theorem dX3_emptySet_3 : decode cX3_emptySet 3 = .ok (.dup, 1) := by decide +kernel
theorem dX3_emptySet_4 : decode cX3_emptySet 4 = .ok (.iconst 3, 1) := by decide +kernel
theorem dX3_emptySet_5 : decode cX3_emptySet 5 = .ok (.invokespecial 11, 3) := by decide +kernel
theorem dX3_emptySet_8 : decode cX3_emptySet 8 = .ok (.astore_n 0, 1) := by decide +kernel
theorem dX3_emptySet_9 : decode cX3_emptySet 9 = .ok (.aload_n 0, 1) := by decide +kernel
theorem dX3_emptySet_10 : decode cX3_emptySet 10 = .ok (.iconst 4, 1) := by decide +kernel
theorem dX3_emptySet_11 : decode cX3_emptySet 11 = .ok (.newarray .long, 2) := by decide +kernel
theorem dX3_emptySet_13 : decode cX3_emptySet 13 = .ok (.putfield 99, 3) := by decide +kernel
theorem dX3_emptySet_16 : decode cX3_emptySet 16 = .ok (.aload_n 0, 1) := by decide +kernel
theorem dX3_emptySet_17 : decode cX3_emptySet 17 = .ok (.areturn, 1) := by decide +kernel
set_option maxRecDepth 20000 in
theorem ggX5_init_Jx4a65c_init_da8c8 : GoodIn wsX5_init wsJx4a65c_init_da8c8 := goodIn_r _ [13, 14, 15, 16, 17, 18, 19, 20, 21, 22, 23, 24, 25, 2, 3, 26, 27, 28] (by decide +kernel) (by decide +kernel)
set_option maxRecDepth 20000 in
theorem gX5_init_Jx4a65c_init_da8c8 : GoodIn wsX5_init (wsJx4a65c_init_da8c8) := ggX5_init_Jx4a65c_init_da8c8
theorem dX5_init_0 : decode cX5_init 0 = .ok (.aload_n 0, 1) := by decide +kernel
theorem dX5_init_1 : decode cX5_init 1 = .ok (.invokespecial 1, 3) := by decide +kernel
theorem dX5_init_4 : decode cX5_init 4 = .ok (.aload_n 0, 1) := by decide +kernel
theorem dX5_init_5 : decode cX5_init 5 = .ok (.new 7, 3) := by decide +kernel
theorem dX5_init_8 : decode cX5_init 8 = .ok (.dup, 1) := by decide +kernel
theorem dX5_init_9 : decode cX5_init 9 = .ok (.invokespecial 9, 3) := by decide +kernel
theorem dX5_init_12 : decode cX5_init 12 = .ok (.putfield 10, 3) := by decide +kernel
theorem dX5_init_15 : decode cX5_init 15 = .ok (.aload_n 0, 1) := by decide +kernel
theorem dX5_init_16 : decode cX5_init 16 = .ok (.new 7, 3) := by decide +kernel
theorem dX5_init_19 : decode cX5_init 19 = .ok (.dup, 1) := by decide +kernel
theorem dX5_init_20 : decode cX5_init 20 = .ok (.invokespecial 9, 3) := by decide +kernel
theorem dX5_init_23 : decode cX5_init 23 = .ok (.putfield 16, 3) := by decide +kernel
theorem dX5_init_26 : decode cX5_init 26 = .ok (.aload_n 0, 1) := by decide +kernel
theorem dX5_init_27 : decode cX5_init 27 = .ok (.aload_n 1, 1) := by decide +kernel
theorem dX5_init_28 : decode cX5_init 28 = .ok (.putfield 19, 3) := by decide +kernel
theorem dX5_init_31 : decode cX5_init 31 = .ok (.aload_n 0, 1) := by decide +kernel
theorem dX5_init_32 : decode cX5_init 32 = .ok (.iload_n 2, 1) := by decide +kernel
theorem dX5_init_33 : decode cX5_init 33 = .ok (.putfield 23, 3) := by decide +kernel
theorem dX5_init_36 : decode cX5_init 36 = .ok (.return_, 1) := by decide +kernel
set_option maxRecDepth 20000 in
theorem ggX5_make_X5_init : GoodIn wsX5_make wsX5_init := goodIn_r _ [12, 13, 14, 15, 16, 17, 18, 19, 20, 21, 22, 23, 24, 25, 26, 27, 28, 29, 30, 31, 32, 33, 34, 35, 36, 37, 67, 68, 69, 43, 44, 45, 46, 47, 48, 49, 50, 51, 52, 53, 54, 55] (by decide +kernel) (by decide +kernel)
set_option maxRecDepth 20000 in
theorem gX5_make_X5_init : GoodIn wsX5_make (wsX5_init) := ggX5_make_X5_init
set_option maxRecDepth 20000 in
theorem ggX5_make_X11_init : GoodIn wsX5_make wsX11_init := goodIn_r _ [40, 41, 14, 15, 42, 56, 57, 58, 59, 60, 61, 62, 63, 64, 65, 66] (by decide +kernel) (by decide +kernel)
set_option maxRecDepth 20000 in
theorem gX5_make_X11_init : GoodIn wsX5_make (wsX11_init) := ggX5_make_X11_init
theorem dX5_make_0 : decode cX5_make 0 = .ok (.new 11, 3) := by decide +kernel
theorem dX5_make_3 : decode cX5_make 3 = .ok (.dup, 1) := by decide +kernel
theorem dX5_make_4 : decode cX5_make 4 = .ok (.aload_n 0, 1) := by decide +kernel
theorem dX5_make_5 : decode cX5_make 5 = .ok (.iload_n 1, 1) := by decide +kernel
theorem dX5_make_6 : decode cX5_make 6 = .ok (.invokespecial 27, 3) := by decide +kernel
theorem dX5_make_9 : decode cX5_make 9 = .ok (.astore_n 3, 1) := by decide +kernel
theorem dX5_make_10 : decode cX5_make 10 = .ok (.aload_n 3, 1) := by decide +kernel
theorem dX5_make_11 : decode cX5_make 11 = .ok (.iload_n 2, 1) := by decide +kernel
theorem dX5_make_12 : decode cX5_make 12 = .ok (.putfield 30, 3) := by decide +kernel
theorem dX5_make_15 : decode cX5_make 15 = .ok (.aload_n 3, 1) := by decide +kernel
theorem dX5_make_16 : decode cX5_make 16 = .ok (.new 33, 3) := by decide +kernel
theorem dX5_make_19 : decode cX5_make 19 = .ok (.dup, 1) := by decide +kernel
theorem dX5_make_20 : decode cX5_make 20 = .ok (.iconst 4, 1) := by decide +kernel
theorem dX5_make_21 : decode cX5_make 21 = .ok (.invokespecial 35, 3) := by decide +kernel
theorem dX5_make_24 : decode cX5_make 24 = .ok (.putfield 38, 3) := by decide +kernel
theorem dX5_make_27 : decode cX5_make 27 = .ok (.aload_n 3, 1) := by decide +kernel
theorem dX5_make_28 : decode cX5_make 28 = .ok (.getfield 38, 3) := by decide +kernel
theorem dX5_make_31 : decode cX5_make 31 = .ok (.aload_n 3, 1) := by decide +kernel
theorem dX5_make_32 : decode cX5_make 32 = .ok (.putfield 42, 3) := by decide +kernel
theorem dX5_make_35 : decode cX5_make 35 = .ok (.aload_n 3, 1) := by decide +kernel
theorem dX5_make_36 : decode cX5_make 36 = .ok (.areturn, 1) := by decide +kernel
theorem dX10_init_0 : decode cX10_init 0 = .ok (.aload_n 0, 1) := by decide +kernel
theorem dX10_init_1 : decode cX10_init 1 = .ok (.invokespecial 3, 3) := by decide +kernel
theorem dX10_init_4 : decode cX10_init 4 = .ok (.aload_n 0, 1) := by decide +kernel
theorem dX10_init_5 : decode cX10_init 5 = .ok (.iload_n 1, 1) := by decide +kernel
theorem dX10_init_6 : decode cX10_init 6 = .ok (.putfield 9, 3) := by decide +kernel
theorem dX10_init_9 : decode cX10_init 9 = .ok (.aload_n 0, 1) := by decide +kernel
theorem dX10_init_10 : decode cX10_init 10 = .ok (.aload_n 2, 1) := by decide +kernel
theorem dX10_init_11 : decode cX10_init 11 = .ok (.putfield 15, 3) := by decide +kernel
theorem dX10_init_14 : decode cX10_init 14 = .ok (.return_, 1) := by decide +kernel
set_option maxRecDepth 20000 in
theorem ggX10_make_X11_init : GoodIn wsX10_make wsX11_init := goodIn_r _ [11, 12, 13, 14, 15, 40, 41, 42, 43, 44, 45, 46, 47, 48, 49, 50] (by decide +kernel) (by decide +kernel)
set_option maxRecDepth 20000 in
theorem gX10_make_X11_init : GoodIn wsX10_make (wsX11_init) := ggX10_make_X11_init
set_option maxRecDepth 20000 in
theorem ggX10_make_X10_init : GoodIn wsX10_make wsX10_init := goodIn_r _ [18, 19, 13, 14, 20, 7, 21, 22, 23, 24, 25, 26, 27, 28, 29, 30, 31, 32, 33, 34, 35, 36, 37, 38, 39] (by decide +kernel) (by decide +kernel)
set_option maxRecDepth 20000 in
theorem gX10_make_X10_init : GoodIn wsX10_make (wsX10_init) := ggX10_make_X10_init
theorem dX10_make_0 : decode cX10_make 0 = .ok (.new 10, 3) := by decide +kernel
theorem dX10_make_3 : decode cX10_make 3 = .ok (.dup, 1) := by decide +kernel
theorem dX10_make_4 : decode cX10_make 4 = .ok (.iload_n 0, 1) := by decide +kernel
theorem dX10_make_5 : decode cX10_make 5 = .ok (.new 19, 3) := by decide +kernel
theorem dX10_make_8 : decode cX10_make 8 = .ok (.dup, 1) := by decide +kernel
theorem dX10_make_9 : decode cX10_make 9 = .ok (.iload_n 0, 1) := by decide +kernel
theorem dX10_make_10 : decode cX10_make 10 = .ok (.invokespecial 21, 3) := by decide +kernel
theorem dX10_make_13 : decode cX10_make 13 = .ok (.invokespecial 24, 3) := by decide +kernel
theorem dX10_make_16 : decode cX10_make 16 = .ok (.astore_n 1, 1) := by decide +kernel
theorem dX10_make_17 : decode cX10_make 17 = .ok (.aload_n 1, 1) := by decide +kernel
theorem dX10_make_18 : decode cX10_make 18 = .ok (.getfield 15, 3) := by decide +kernel
theorem dX10_make_21 : decode cX10_make 21 = .ok (.aload_n 1, 1) := by decide +kernel
theorem dX10_make_22 : decode cX10_make 22 = .ok (.putfield 27, 3) := by decide +kernel
theorem dX10_make_25 : decode cX10_make 25 = .ok (.aload_n 1, 1) := by decide +kernel
theorem dX10_make_26 : decode cX10_make 26 = .ok (.areturn, 1) := by decide +kernel
theorem dX11_init_0 : decode cX11_init 0 = .ok (.aload_n 0, 1) := by decide +kernel
theorem dX11_init_1 : decode cX11_init 1 = .ok (.invokespecial 1, 3) := by decide +kernel
theorem dX11_init_4 : decode cX11_init 4 = .ok (.aload_n 0, 1) := by decide +kernel
theorem dX11_init_5 : decode cX11_init 5 = .ok (.iload_n 1, 1) := by decide +kernel
theorem dX11_init_6 : decode cX11_init 6 = .ok (.putfield 7, 3) := by decide +kernel
theorem dX11_init_9 : decode cX11_init 9 = .ok (.return_, 1) := by decide +kernel
set_option maxRecDepth 20000 in
theorem ggX11_text_X11_init : GoodIn wsX11_text wsX11_init := goodIn_r _ [9, 10, 11, 12, 13, 14, 15, 16, 17, 18, 19, 20, 21, 22, 23, 24] (by decide +kernel) (by decide +kernel)
set_option maxRecDepth 20000 in
theorem gX11_text_X11_init : GoodIn wsX11_text (wsX11_init) := ggX11_text_X11_init
theorem dX11_text_0 : decode cX11_text 0 = .ok (.new 8, 3) := by decide +kernel
theorem dX11_text_3 : decode cX11_text 3 = .ok (.dup, 1) := by decide +kernel
theorem dX11_text_4 : decode cX11_text 4 = .ok (.iconst 2, 1) := by decide +kernel
theorem dX11_text_5 : decode cX11_text 5 = .ok (.invokespecial 13, 3) := by decide +kernel
theorem dX11_text_8 : decode cX11_text 8 = .ok (.astore_n 3, 1) := by decide +kernel
theorem dX11_text_9 : decode cX11_text 9 = .ok (.aload_n 3, 1) := by decide +kernel
theorem dX11_text_10 : decode cX11_text 10 = .ok (.aload_n 0, 1) := by decide +kernel
theorem dX11_text_11 : decode cX11_text 11 = .ok (.putfield 20, 3) := by decide +kernel
theorem dX11_text_14 : decode cX11_text 14 = .ok (.aload_n 3, 1) := by decide +kernel
theorem dX11_text_15 : decode cX11_text 15 = .ok (.iload_n 1, 1) := by decide +kernel
theorem dX11_text_16 : decode cX11_text 16 = .ok (.putfield 24, 3) := by decide +kernel
theorem dX11_text_19 : decode cX11_text 19 = .ok (.aload_n 3, 1) := by decide +kernel
theorem dX11_text_20 : decode cX11_text 20 = .ok (.iload_n 2, 1) := by decide +kernel
theorem dX11_text_21 : decode cX11_text 21 = .ok (.putfield 27, 3) := by decide +kernel
theorem dX11_text_24 : decode cX11_text 24 = .ok (.aload_n 3, 1) := by decide +kernel
theorem dX11_text_25 : decode cX11_text 25 = .ok (.areturn, 1) := by decide +kernel
theorem dX11_put_0 : decode cX11_put 0 = .ok (.iload_n 1, 1) := by decide +kernel
theorem dX11_put_1 : decode cX11_put 1 = .ok (.bipush 6, 2) := by decide +kernel
theorem dX11_put_3 : decode cX11_put 3 = .ok (.ishr, 1) := by decide +kernel
theorem dX11_put_4 : decode cX11_put 4 = .ok (.istore_n 2, 1) := by decide +kernel
theorem dX11_put_5 : decode cX11_put 5 = .ok (.aload_n 0, 1) := by decide +kernel
theorem dX11_put_6 : decode cX11_put 6 = .ok (.getfield 34, 3) := by decide +kernel
theorem dX11_put_9 : decode cX11_put 9 = .ok (.ifnull 31, 3) := by decide +kernel
theorem dX11_put_12 : decode cX11_put 12 = .ok (.iload_n 2, 1) := by decide +kernel
theorem dX11_put_13 : decode cX11_put 13 = .ok (.ifCond .lt 27, 3) := by decide +kernel
theorem dX11_put_16 : decode cX11_put 16 = .ok (.iload_n 2, 1) := by decide +kernel
theorem dX11_put_17 : decode cX11_put 17 = .ok (.aload_n 0, 1) := by decide +kernel
theorem dX11_put_18 : decode cX11_put 18 = .ok (.getfield 34, 3) := by decide +kernel
theorem dX11_put_21 : decode cX11_put 21 = .ok (.arraylength, 1) := by decide +kernel
theorem dX11_put_22 : decode cX11_put 22 = .ok (.if_icmp .ge 18, 3) := by decide +kernel
theorem dX11_put_25 : decode cX11_put 25 = .ok (.aload_n 0, 1) := by decide +kernel
theorem dX11_put_26 : decode cX11_put 26 = .ok (.getfield 34, 3) := by decide +kernel
theorem dX11_put_29 : decode cX11_put 29 = .ok (.iload_n 2, 1) := by decide +kernel
theorem dX11_put_30 : decode cX11_put 30 = .ok (.dup2, 1) := by decide +kernel
theorem dX11_put_31 : decode cX11_put 31 = .ok (.laload, 1) := by decide +kernel
theorem dX11_put_32 : decode cX11_put 32 = .ok (.lconst 1, 1) := by decide +kernel
theorem dX11_put_33 : decode cX11_put 33 = .ok (.iload_n 1, 1) := by decide +kernel
theorem dX11_put_34 : decode cX11_put 34 = .ok (.bipush 63, 2) := by decide +kernel
theorem dX11_put_36 : decode cX11_put 36 = .ok (.iand, 1) := by decide +kernel
theorem dX11_put_37 : decode cX11_put 37 = .ok (.lshl, 1) := by decide +kernel
theorem dX11_put_38 : decode cX11_put 38 = .ok (.lor, 1) := by decide +kernel
theorem dX11_put_39 : decode cX11_put 39 = .ok (.lastore, 1) := by decide +kernel
theorem dX11_put_40 : decode cX11_put 40 = .ok (.return_, 1) := by decide +kernel
set_option maxRecDepth 20000 in
theorem ggX12_wordOf_J0_length_8abf5 : GoodIn wsX12_wordOf wsJ0_length_8abf5 := goodIn_r _ [5, 6, 7, 8, 9, 4, 10, 11, 12, 126, 127, 128, 129] (by decide +kernel) (by decide +kernel)
set_option maxRecDepth 20000 in
theorem gX12_wordOf_J0_length_8abf5 : GoodIn wsX12_wordOf (wsV RX12 148 RJ0 yJ0_length_8abf5 wsJ0_length_8abf5) := goodIn_app (goodIn_of _ (by decide +kernel)) ggX12_wordOf_J0_length_8abf5
set_option maxRecDepth 20000 in
theorem ggX12_wordOf_J0_charAt_5068e : GoodIn wsX12_wordOf wsJ0_charAt_5068e := goodIn_r _ [16, 6, 17, 18, 19, 4, 20, 11, 12, 21, 22, 23, 24, 25, 26, 27, 28, 29, 30, 31, 32, 33, 34, 35, 36, 37, 38, 39, 40, 41, 42, 43, 44, 45, 46, 47, 48, 49, 126, 127, 128, 129] (by decide +kernel) (by decide +kernel)
set_option maxRecDepth 20000 in
theorem gX12_wordOf_J0_charAt_5068e : GoodIn wsX12_wordOf (wsV RX12 151 RJ0 yJ0_charAt_5068e wsJ0_charAt_5068e) := goodIn_app (goodIn_of _ (by decide +kernel)) ggX12_wordOf_J0_charAt_5068e
set_option maxRecDepth 20000 in
theorem ggX12_wordOf_J0_substring_37a41 : GoodIn wsX12_wordOf wsJ0_substring_37a41 := goodIn_r _ [53, 6, 54, 2, 3, 4, 5, 7, 8, 9, 10, 11, 12, 55, 56, 57, 28, 58, 59, 31, 60, 17, 18, 19, 20, 61, 62, 23, 63, 64, 65, 66, 67, 68, 69, 70, 71, 72, 73, 74, 75, 76, 77, 78, 79, 80, 81, 82, 83, 84, 85, 86, 87, 88, 89, 90, 91, 92, 93, 94, 95, 96, 97, 98, 35, 99, 100, 101, 102, 103, 104, 105, 106, 107, 108, 109, 110, 40, 41, 42, 111, 112, 113, 114, 115, 116, 44, 45, 46, 47, 48, 49, 117, 118, 119, 120, 121, 122, 123, 124, 125, 126, 127, 128, 129] (by decide +kernel) (by decide +kernel)
set_option maxRecDepth 20000 in
theorem gX12_wordOf_J0_substring_37a41 : GoodIn wsX12_wordOf (wsV RX12 287 RJ0 yJ0_substring_37a41 wsJ0_substring_37a41) := goodIn_app (goodIn_of _ (by decide +kernel)) ggX12_wordOf_J0_substring_37a41
theorem dX12_wordOf_0 : decode cX12_wordOf 0 = .ok (.iconst 0, 1) := by decide +kernel
theorem dX12_wordOf_1 : decode cX12_wordOf 1 = .ok (.istore_n 2, 1) := by decide +kernel
theorem dX12_wordOf_2 : decode cX12_wordOf 2 = .ok (.iconst 0, 1) := by decide +kernel
theorem dX12_wordOf_3 : decode cX12_wordOf 3 = .ok (.istore_n 3, 1) := by decide +kernel
theorem dX12_wordOf_4 : decode cX12_wordOf 4 = .ok (.iconst 0, 1) := by decide +kernel
theorem dX12_wordOf_5 : decode cX12_wordOf 5 = .ok (.istore 4, 2) := by decide +kernel
theorem dX12_wordOf_7 : decode cX12_wordOf 7 = .ok (.iload 4, 2) := by decide +kernel
theorem dX12_wordOf_9 : decode cX12_wordOf 9 = .ok (.aload_n 0, 1) := by decide +kernel
theorem dX12_wordOf_10 : decode cX12_wordOf 10 = .ok (.invokevirtual 148, 3) := by decide +kernel
theorem dX12_wordOf_13 : decode cX12_wordOf 13 = .ok (.if_icmp .ge 41, 3) := by decide +kernel
theorem dX12_wordOf_16 : decode cX12_wordOf 16 = .ok (.aload_n 0, 1) := by decide +kernel
theorem dX12_wordOf_17 : decode cX12_wordOf 17 = .ok (.iload 4, 2) := by decide +kernel
theorem dX12_wordOf_19 : decode cX12_wordOf 19 = .ok (.invokevirtual 151, 3) := by decide +kernel
theorem dX12_wordOf_22 : decode cX12_wordOf 22 = .ok (.bipush 32, 2) := by decide +kernel
theorem dX12_wordOf_24 : decode cX12_wordOf 24 = .ok (.if_icmp .ne 24, 3) := by decide +kernel
theorem dX12_wordOf_27 : decode cX12_wordOf 27 = .ok (.iload_n 3, 1) := by decide +kernel
theorem dX12_wordOf_28 : decode cX12_wordOf 28 = .ok (.iload_n 1, 1) := by decide +kernel
theorem dX12_wordOf_29 : decode cX12_wordOf 29 = .ok (.if_icmp .ne 11, 3) := by decide +kernel
theorem dX12_wordOf_32 : decode cX12_wordOf 32 = .ok (.aload_n 0, 1) := by decide +kernel
theorem dX12_wordOf_33 : decode cX12_wordOf 33 = .ok (.iload_n 2, 1) := by decide +kernel
theorem dX12_wordOf_34 : decode cX12_wordOf 34 = .ok (.iload 4, 2) := by decide +kernel
theorem dX12_wordOf_36 : decode cX12_wordOf 36 = .ok (.invokevirtual 287, 3) := by decide +kernel
theorem dX12_wordOf_39 : decode cX12_wordOf 39 = .ok (.areturn, 1) := by decide +kernel
theorem dX12_wordOf_40 : decode cX12_wordOf 40 = .ok (.iinc 3 1, 3) := by decide +kernel
theorem dX12_wordOf_43 : decode cX12_wordOf 43 = .ok (.iload 4, 2) := by decide +kernel
theorem dX12_wordOf_45 : decode cX12_wordOf 45 = .ok (.iconst 1, 1) := by decide +kernel
theorem dX12_wordOf_46 : decode cX12_wordOf 46 = .ok (.iadd, 1) := by decide +kernel
theorem dX12_wordOf_47 : decode cX12_wordOf 47 = .ok (.istore_n 2, 1) := by decide +kernel
theorem dX12_wordOf_48 : decode cX12_wordOf 48 = .ok (.iinc 4 1, 3) := by decide +kernel
theorem dX12_wordOf_51 : decode cX12_wordOf 51 = .ok (.goto (-44), 3) := by decide +kernel
theorem dX12_wordOf_54 : decode cX12_wordOf 54 = .ok (.ldc 206, 2) := by decide +kernel
theorem dX12_wordOf_56 : decode cX12_wordOf 56 = .ok (.areturn, 1) := by decide +kernel
set_option maxRecDepth 20000 in
theorem ggJ0_length_8abf5_J0_coder_7d493 : GoodIn wsJ0_length_8abf5 wsJ0_coder_7d493 := goodIn_r _ [6, 7, 8, 9, 10, 11, 12] (by decide +kernel) (by decide +kernel)
set_option maxRecDepth 20000 in
theorem gJ0_length_8abf5_J0_coder_7d493 : GoodIn wsJ0_length_8abf5 (wsV RJ0 335 RJ0 yJ0_coder_7d493 wsJ0_coder_7d493) := goodIn_app (goodIn_of _ (by decide +kernel)) ggJ0_length_8abf5_J0_coder_7d493
theorem dJ0_length_8abf5_0 : decode cJ0_length_8abf5 0 = .ok (.aload_n 0, 1) := by decide +kernel
theorem dJ0_length_8abf5_1 : decode cJ0_length_8abf5 1 = .ok (.getfield 9, 3) := by decide +kernel
theorem dJ0_length_8abf5_4 : decode cJ0_length_8abf5 4 = .ok (.arraylength, 1) := by decide +kernel
theorem dJ0_length_8abf5_5 : decode cJ0_length_8abf5 5 = .ok (.aload_n 0, 1) := by decide +kernel
theorem dJ0_length_8abf5_6 : decode cJ0_length_8abf5 6 = .ok (.invokevirtual 335, 3) := by decide +kernel
theorem dJ0_length_8abf5_9 : decode cJ0_length_8abf5 9 = .ok (.ishr, 1) := by decide +kernel
theorem dJ0_length_8abf5_10 : decode cJ0_length_8abf5 10 = .ok (.ireturn, 1) := by decide +kernel
set_option maxRecDepth 20000 in
theorem ggJ0_charAt_5068e_J0_isLatin1_aae02 : GoodIn wsJ0_charAt_5068e wsJ0_isLatin1_aae02 := goodIn_r _ [6, 7, 8, 38, 39, 40, 41] (by decide +kernel) (by decide +kernel)
set_option maxRecDepth 20000 in
theorem gJ0_charAt_5068e_J0_isLatin1_aae02 : GoodIn wsJ0_charAt_5068e (wsV RJ0 492 RJ0 yJ0_isLatin1_aae02 wsJ0_isLatin1_aae02) := goodIn_app (goodIn_of _ (by decide +kernel)) ggJ0_charAt_5068e_J0_isLatin1_aae02
set_option maxRecDepth 20000 in
theorem ggJ0_charAt_5068e_J1_charAt_3b067 : GoodIn wsJ0_charAt_5068e wsJ1_charAt_3b067 := goodIn_r _ [12, 13, 14, 5, 15, 16, 17, 18, 19, 20] (by decide +kernel) (by decide +kernel)
set_option maxRecDepth 20000 in
theorem gJ0_charAt_5068e_J1_charAt_3b067 : GoodIn wsJ0_charAt_5068e (va_wsS RJ0 495 yJ1_charAt_3b067 wsJ1_charAt_3b067) := goodIn_app (goodIn_of _ (by decide +kernel)) ggJ0_charAt_5068e_J1_charAt_3b067
theorem dJ0_charAt_5068e_0 : decode cJ0_charAt_5068e 0 = .ok (.aload_n 0, 1) := by decide +kernel
theorem dJ0_charAt_5068e_1 : decode cJ0_charAt_5068e 1 = .ok (.invokevirtual 492, 3) := by decide +kernel
theorem dJ0_charAt_5068e_4 : decode cJ0_charAt_5068e 4 = .ok (.ifCond .eq 12, 3) := by decide +kernel
theorem dJ0_charAt_5068e_7 : decode cJ0_charAt_5068e 7 = .ok (.aload_n 0, 1) := by decide +kernel
theorem dJ0_charAt_5068e_8 : decode cJ0_charAt_5068e 8 = .ok (.getfield 9, 3) := by decide +kernel
theorem dJ0_charAt_5068e_11 : decode cJ0_charAt_5068e 11 = .ok (.iload_n 1, 1) := by decide +kernel
theorem dJ0_charAt_5068e_12 : decode cJ0_charAt_5068e 12 = .ok (.invokestatic 495, 3) := by decide +kernel
theorem dJ0_charAt_5068e_15 : decode cJ0_charAt_5068e 15 = .ok (.ireturn, 1) := by decide +kernel
theorem dJ0_charAt_5068e_16 : decode cJ0_charAt_5068e 16 = .ok (.aload_n 0, 1) := by decide +kernel
theorem dJ0_charAt_5068e_17 : decode cJ0_charAt_5068e 17 = .ok (.getfield 9, 3) := by decide +kernel
theorem dJ0_charAt_5068e_20 : decode cJ0_charAt_5068e 20 = .ok (.iload_n 1, 1) := by decide +kernel
theorem dJ0_charAt_5068e_21 : decode cJ0_charAt_5068e 21 = .ok (.invokestatic 498, 3) := by decide +kernel
theorem dJ0_charAt_5068e_24 : decode cJ0_charAt_5068e 24 = .ok (.ireturn, 1) := by decide +kernel
set_option maxRecDepth 20000 in
theorem ggJ0_substring_37a41_J0_length_8abf5 : GoodIn wsJ0_substring_37a41 wsJ0_length_8abf5 := goodIn_r _ [6, 1, 7, 8, 9, 5, 10, 11, 12, 101, 102, 103, 104] (by decide +kernel) (by decide +kernel)
set_option maxRecDepth 20000 in
theorem gJ0_substring_37a41_J0_length_8abf5 : GoodIn wsJ0_substring_37a41 (wsV RJ0 505 RJ0 yJ0_length_8abf5 wsJ0_length_8abf5) := goodIn_app (goodIn_of _ (by decide +kernel)) ggJ0_substring_37a41_J0_length_8abf5
set_option maxRecDepth 20000 in
theorem ggJ0_substring_37a41_J0_checkBoundsBeginEnd_23922 : GoodIn wsJ0_substring_37a41 wsJ0_checkBoundsBeginEnd_23922 := goodIn_r _ [15, 16, 17, 18, 19, 20] (by decide +kernel) (by decide +kernel)
set_option maxRecDepth 20000 in
theorem gJ0_substring_37a41_J0_checkBoundsBeginEnd_23922 : GoodIn wsJ0_substring_37a41 (va_wsS RJ0 521 yJ0_checkBoundsBeginEnd_23922 wsJ0_checkBoundsBeginEnd_23922) := goodIn_app (goodIn_of _ (by decide +kernel)) ggJ0_substring_37a41_J0_checkBoundsBeginEnd_23922
set_option maxRecDepth 20000 in
theorem ggJ0_substring_37a41_J0_isLatin1_aae02 : GoodIn wsJ0_substring_37a41 wsJ0_isLatin1_aae02 := goodIn_r _ [24, 11, 12, 101, 102, 103, 104] (by decide +kernel) (by decide +kernel)
set_option maxRecDepth 20000 in
theorem gJ0_substring_37a41_J0_isLatin1_aae02 : GoodIn wsJ0_substring_37a41 (wsV RJ0 492 RJ0 yJ0_isLatin1_aae02 wsJ0_isLatin1_aae02) := goodIn_app (goodIn_of _ (by decide +kernel)) ggJ0_substring_37a41_J0_isLatin1_aae02
set_option maxRecDepth 20000 in
theorem ggJ0_substring_37a41_J1_newString_b4f7a : GoodIn wsJ0_substring_37a41 wsJ1_newString_b4f7a := goodIn_r _ [28, 29, 30, 5, 31, 32, 33, 34, 35, 36, 37, 38, 39, 40, 41, 42, 43, 44, 45, 46, 47, 48, 49, 50, 51, 52, 53, 54, 55, 56, 57, 58, 59, 60, 61, 1, 12, 101, 102, 103, 104] (by decide +kernel) (by decide +kernel)
set_option maxRecDepth 20000 in
theorem gJ0_substring_37a41_J1_newString_b4f7a : GoodIn wsJ0_substring_37a41 (va_wsS RJ0 685 yJ1_newString_b4f7a wsJ1_newString_b4f7a) := goodIn_app (goodIn_of _ (by decide +kernel)) ggJ0_substring_37a41_J1_newString_b4f7a
theorem dJ0_substring_37a41_0 : decode cJ0_substring_37a41 0 = .ok (.aload_n 0, 1) := by decide +kernel
theorem dJ0_substring_37a41_1 : decode cJ0_substring_37a41 1 = .ok (.invokevirtual 505, 3) := by decide +kernel
theorem dJ0_substring_37a41_4 : decode cJ0_substring_37a41 4 = .ok (.istore_n 3, 1) := by decide +kernel
theorem dJ0_substring_37a41_5 : decode cJ0_substring_37a41 5 = .ok (.iload_n 1, 1) := by decide +kernel
theorem dJ0_substring_37a41_6 : decode cJ0_substring_37a41 6 = .ok (.iload_n 2, 1) := by decide +kernel
theorem dJ0_substring_37a41_7 : decode cJ0_substring_37a41 7 = .ok (.iload_n 3, 1) := by decide +kernel
theorem dJ0_substring_37a41_8 : decode cJ0_substring_37a41 8 = .ok (.invokestatic 521, 3) := by decide +kernel
theorem dJ0_substring_37a41_11 : decode cJ0_substring_37a41 11 = .ok (.iload_n 1, 1) := by decide +kernel
theorem dJ0_substring_37a41_12 : decode cJ0_substring_37a41 12 = .ok (.ifCond .ne 10, 3) := by decide +kernel
theorem dJ0_substring_37a41_15 : decode cJ0_substring_37a41 15 = .ok (.iload_n 2, 1) := by decide +kernel
theorem dJ0_substring_37a41_16 : decode cJ0_substring_37a41 16 = .ok (.iload_n 3, 1) := by decide +kernel
theorem dJ0_substring_37a41_17 : decode cJ0_substring_37a41 17 = .ok (.if_icmp .ne 5, 3) := by decide +kernel
theorem dJ0_substring_37a41_20 : decode cJ0_substring_37a41 20 = .ok (.aload_n 0, 1) := by decide +kernel
theorem dJ0_substring_37a41_21 : decode cJ0_substring_37a41 21 = .ok (.areturn, 1) := by decide +kernel
theorem dJ0_substring_37a41_22 : decode cJ0_substring_37a41 22 = .ok (.iload_n 2, 1) := by decide +kernel
theorem dJ0_substring_37a41_23 : decode cJ0_substring_37a41 23 = .ok (.iload_n 1, 1) := by decide +kernel
theorem dJ0_substring_37a41_24 : decode cJ0_substring_37a41 24 = .ok (.isub, 1) := by decide +kernel
theorem dJ0_substring_37a41_25 : decode cJ0_substring_37a41 25 = .ok (.istore 4, 2) := by decide +kernel
theorem dJ0_substring_37a41_27 : decode cJ0_substring_37a41 27 = .ok (.aload_n 0, 1) := by decide +kernel
theorem dJ0_substring_37a41_28 : decode cJ0_substring_37a41 28 = .ok (.invokevirtual 492, 3) := by decide +kernel
theorem dJ0_substring_37a41_31 : decode cJ0_substring_37a41 31 = .ok (.ifCond .eq 16, 3) := by decide +kernel
theorem dJ0_substring_37a41_34 : decode cJ0_substring_37a41 34 = .ok (.aload_n 0, 1) := by decide +kernel
theorem dJ0_substring_37a41_35 : decode cJ0_substring_37a41 35 = .ok (.getfield 9, 3) := by decide +kernel
theorem dJ0_substring_37a41_38 : decode cJ0_substring_37a41 38 = .ok (.iload_n 1, 1) := by decide +kernel
theorem dJ0_substring_37a41_39 : decode cJ0_substring_37a41 39 = .ok (.iload 4, 2) := by decide +kernel
theorem dJ0_substring_37a41_41 : decode cJ0_substring_37a41 41 = .ok (.invokestatic 685, 3) := by decide +kernel
theorem dJ0_substring_37a41_44 : decode cJ0_substring_37a41 44 = .ok (.goto 13, 3) := by decide +kernel
theorem dJ0_substring_37a41_47 : decode cJ0_substring_37a41 47 = .ok (.aload_n 0, 1) := by decide +kernel
theorem dJ0_substring_37a41_48 : decode cJ0_substring_37a41 48 = .ok (.getfield 9, 3) := by decide +kernel
theorem dJ0_substring_37a41_51 : decode cJ0_substring_37a41 51 = .ok (.iload_n 1, 1) := by decide +kernel
theorem dJ0_substring_37a41_52 : decode cJ0_substring_37a41 52 = .ok (.iload 4, 2) := by decide +kernel
theorem dJ0_substring_37a41_54 : decode cJ0_substring_37a41 54 = .ok (.invokestatic 689, 3) := by decide +kernel
theorem dJ0_substring_37a41_57 : decode cJ0_substring_37a41 57 = .ok (.areturn, 1) := by decide +kernel
theorem dJ0_init_031fb_0 : decode cJ0_init_031fb 0 = .ok (.aload_n 0, 1) := by decide +kernel
theorem dJ0_init_031fb_1 : decode cJ0_init_031fb 1 = .ok (.invokespecial 1, 3) := by decide +kernel
theorem dJ0_init_031fb_4 : decode cJ0_init_031fb 4 = .ok (.aload_n 0, 1) := by decide +kernel
theorem dJ0_init_031fb_5 : decode cJ0_init_031fb 5 = .ok (.aload_n 1, 1) := by decide +kernel
theorem dJ0_init_031fb_6 : decode cJ0_init_031fb 6 = .ok (.putfield 9, 3) := by decide +kernel
theorem dJ0_init_031fb_9 : decode cJ0_init_031fb 9 = .ok (.aload_n 0, 1) := by decide +kernel
theorem dJ0_init_031fb_10 : decode cJ0_init_031fb 10 = .ok (.iload_n 2, 1) := by decide +kernel
theorem dJ0_init_031fb_11 : decode cJ0_init_031fb 11 = .ok (.putfield 15, 3) := by decide +kernel
theorem dJ0_init_031fb_14 : decode cJ0_init_031fb 14 = .ok (.return_, 1) := by decide +kernel
theorem dJ0_coder_7d493_0 : decode cJ0_coder_7d493 0 = .ok (.getstatic 38, 3) := by decide +kernel
theorem dJ0_coder_7d493_3 : decode cJ0_coder_7d493 3 = .ok (.ifCond .eq 10, 3) := by decide +kernel
theorem dJ0_coder_7d493_6 : decode cJ0_coder_7d493 6 = .ok (.aload_n 0, 1) := by decide +kernel
theorem dJ0_coder_7d493_7 : decode cJ0_coder_7d493 7 = .ok (.getfield 15, 3) := by decide +kernel
theorem dJ0_coder_7d493_10 : decode cJ0_coder_7d493 10 = .ok (.goto 4, 3) := by decide +kernel
theorem dJ0_coder_7d493_13 : decode cJ0_coder_7d493 13 = .ok (.iconst 1, 1) := by decide +kernel
theorem dJ0_coder_7d493_14 : decode cJ0_coder_7d493 14 = .ok (.ireturn, 1) := by decide +kernel
theorem dJ0_isLatin1_aae02_0 : decode cJ0_isLatin1_aae02 0 = .ok (.getstatic 38, 3) := by decide +kernel
theorem dJ0_isLatin1_aae02_3 : decode cJ0_isLatin1_aae02 3 = .ok (.ifCond .eq 14, 3) := by decide +kernel
theorem dJ0_isLatin1_aae02_6 : decode cJ0_isLatin1_aae02 6 = .ok (.aload_n 0, 1) := by decide +kernel
theorem dJ0_isLatin1_aae02_7 : decode cJ0_isLatin1_aae02 7 = .ok (.getfield 15, 3) := by decide +kernel
theorem dJ0_isLatin1_aae02_10 : decode cJ0_isLatin1_aae02 10 = .ok (.ifCond .ne 7, 3) := by decide +kernel
theorem dJ0_isLatin1_aae02_13 : decode cJ0_isLatin1_aae02 13 = .ok (.iconst 1, 1) := by decide +kernel
theorem dJ0_isLatin1_aae02_14 : decode cJ0_isLatin1_aae02 14 = .ok (.goto 4, 3) := by decide +kernel
theorem dJ0_isLatin1_aae02_17 : decode cJ0_isLatin1_aae02 17 = .ok (.iconst 0, 1) := by decide +kernel
theorem dJ0_isLatin1_aae02_18 : decode cJ0_isLatin1_aae02 18 = .ok (.ireturn, 1) := by decide +kernel
set_option maxRecDepth 20000 in
theorem ggJ0_checkIndex_df160_J3_checkIndex_8e157 : GoodIn wsJ0_checkIndex_df160 wsJ3_checkIndex_8e157 := goodIn_r _ [5] (by decide +kernel) (by decide +kernel)
set_option maxRecDepth 20000 in
theorem gJ0_checkIndex_df160_J3_checkIndex_8e157 : GoodIn wsJ0_checkIndex_df160 (va_wsS RJ0 1059 yJ3_checkIndex_8e157 wsJ3_checkIndex_8e157) := goodIn_app (goodIn_of _ (by decide +kernel)) ggJ0_checkIndex_df160_J3_checkIndex_8e157
theorem dJ0_checkIndex_df160_0 : decode cJ0_checkIndex_df160 0 = .ok (.iload_n 0, 1) := by decide +kernel
theorem dJ0_checkIndex_df160_1 : decode cJ0_checkIndex_df160 1 = .ok (.iload_n 1, 1) := by decide +kernel
theorem dJ0_checkIndex_df160_2 : decode cJ0_checkIndex_df160 2 = .ok (.getstatic 1053, 3) := by decide +kernel
theorem dJ0_checkIndex_df160_5 : decode cJ0_checkIndex_df160 5 = .ok (.invokestatic 1059, 3) := by decide +kernel
theorem dJ0_checkIndex_df160_8 : decode cJ0_checkIndex_df160 8 = .ok (.pop, 1) := by decide +kernel
theorem dJ0_checkIndex_df160_9 : decode cJ0_checkIndex_df160 9 = .ok (.return_, 1) := by decide +kernel
set_option maxRecDepth 20000 in
theorem ggJ0_checkBoundsBeginEnd_23922_J3_checkFromToIndex_8c36e : GoodIn wsJ0_checkBoundsBeginEnd_23922 wsJ3_checkFromToIndex_8c36e := goodIn_r _ [5] (by decide +kernel) (by decide +kernel)
set_option maxRecDepth 20000 in
theorem gJ0_checkBoundsBeginEnd_23922_J3_checkFromToIndex_8c36e : GoodIn wsJ0_checkBoundsBeginEnd_23922 (va_wsS RJ0 1062 yJ3_checkFromToIndex_8c36e wsJ3_checkFromToIndex_8c36e) := goodIn_app (goodIn_of _ (by decide +kernel)) ggJ0_checkBoundsBeginEnd_23922_J3_checkFromToIndex_8c36e
theorem dJ0_checkBoundsBeginEnd_23922_0 : decode cJ0_checkBoundsBeginEnd_23922 0 = .ok (.iload_n 0, 1) := by decide +kernel
theorem dJ0_checkBoundsBeginEnd_23922_1 : decode cJ0_checkBoundsBeginEnd_23922 1 = .ok (.iload_n 1, 1) := by decide +kernel
theorem dJ0_checkBoundsBeginEnd_23922_2 : decode cJ0_checkBoundsBeginEnd_23922 2 = .ok (.iload_n 2, 1) := by decide +kernel
theorem dJ0_checkBoundsBeginEnd_23922_3 : decode cJ0_checkBoundsBeginEnd_23922 3 = .ok (.getstatic 1053, 3) := by decide +kernel
theorem dJ0_checkBoundsBeginEnd_23922_6 : decode cJ0_checkBoundsBeginEnd_23922 6 = .ok (.invokestatic 1062, 3) := by decide +kernel
theorem dJ0_checkBoundsBeginEnd_23922_9 : decode cJ0_checkBoundsBeginEnd_23922 9 = .ok (.pop, 1) := by decide +kernel
theorem dJ0_checkBoundsBeginEnd_23922_10 : decode cJ0_checkBoundsBeginEnd_23922 10 = .ok (.return_, 1) := by decide +kernel
set_option maxRecDepth 20000 in
theorem ggJ1_charAt_3b067_J0_checkIndex_df160 : GoodIn wsJ1_charAt_3b067 wsJ0_checkIndex_df160 := goodIn_r _ [4, 5, 6, 7, 8, 9] (by decide +kernel) (by decide +kernel)
set_option maxRecDepth 20000 in
theorem gJ1_charAt_3b067_J0_checkIndex_df160 : GoodIn wsJ1_charAt_3b067 (va_wsS RJ1 9 yJ0_checkIndex_df160 wsJ0_checkIndex_df160) := goodIn_app (goodIn_of _ (by decide +kernel)) ggJ1_charAt_3b067_J0_checkIndex_df160
theorem dJ1_charAt_3b067_0 : decode cJ1_charAt_3b067 0 = .ok (.iload_n 1, 1) := by decide +kernel
theorem dJ1_charAt_3b067_1 : decode cJ1_charAt_3b067 1 = .ok (.aload_n 0, 1) := by decide +kernel
theorem dJ1_charAt_3b067_2 : decode cJ1_charAt_3b067 2 = .ok (.arraylength, 1) := by decide +kernel
theorem dJ1_charAt_3b067_3 : decode cJ1_charAt_3b067 3 = .ok (.invokestatic 9, 3) := by decide +kernel
theorem dJ1_charAt_3b067_6 : decode cJ1_charAt_3b067 6 = .ok (.aload_n 0, 1) := by decide +kernel
theorem dJ1_charAt_3b067_7 : decode cJ1_charAt_3b067 7 = .ok (.iload_n 1, 1) := by decide +kernel
theorem dJ1_charAt_3b067_8 : decode cJ1_charAt_3b067 8 = .ok (.baload, 1) := by decide +kernel
theorem dJ1_charAt_3b067_9 : decode cJ1_charAt_3b067 9 = .ok (.sipush 255, 3) := by decide +kernel
theorem dJ1_charAt_3b067_12 : decode cJ1_charAt_3b067 12 = .ok (.iand, 1) := by decide +kernel
theorem dJ1_charAt_3b067_13 : decode cJ1_charAt_3b067 13 = .ok (.i2c, 1) := by decide +kernel
theorem dJ1_charAt_3b067_14 : decode cJ1_charAt_3b067 14 = .ok (.ireturn, 1) := by decide +kernel
set_option maxRecDepth 20000 in
theorem ggJ1_newString_b4f7a_J7_copyOfRange_39247 : GoodIn wsJ1_newString_b4f7a wsJ7_copyOfRange_39247 := goodIn_r _ [7, 8, 9, 10, 11, 12, 13, 14, 15, 6, 16, 17, 18, 19, 20, 21, 22, 23, 24, 25, 26, 27, 28] (by decide +kernel) (by decide +kernel)
set_option maxRecDepth 20000 in
theorem gJ1_newString_b4f7a_J7_copyOfRange_39247 : GoodIn wsJ1_newString_b4f7a (va_wsS RJ1 232 yJ7_copyOfRange_39247 wsJ7_copyOfRange_39247) := goodIn_app (goodIn_of _ (by decide +kernel)) ggJ1_newString_b4f7a_J7_copyOfRange_39247
set_option maxRecDepth 20000 in
theorem ggJ1_newString_b4f7a_J0_init_031fb : GoodIn wsJ1_newString_b4f7a wsJ0_init_031fb := goodIn_r _ [31, 32, 33, 34, 35, 36, 37, 38, 39, 40] (by decide +kernel) (by decide +kernel)
set_option maxRecDepth 20000 in
theorem gJ1_newString_b4f7a_J0_init_031fb : GoodIn wsJ1_newString_b4f7a (wsJ0_init_031fb) := ggJ1_newString_b4f7a_J0_init_031fb
theorem dJ1_newString_b4f7a_0 : decode cJ1_newString_b4f7a 0 = .ok (.iload_n 2, 1) := by decide +kernel
theorem dJ1_newString_b4f7a_1 : decode cJ1_newString_b4f7a 1 = .ok (.ifCond .ne 6, 3) := by decide +kernel
theorem dJ1_newString_b4f7a_4 : decode cJ1_newString_b4f7a 4 = .ok (.ldc 151, 2) := by decide +kernel
theorem dJ1_newString_b4f7a_6 : decode cJ1_newString_b4f7a 6 = .ok (.areturn, 1) := by decide +kernel
theorem dJ1_newString_b4f7a_7 : decode cJ1_newString_b4f7a 7 = .ok (.new 1, 3) := by decide +kernel
theorem dJ1_newString_b4f7a_10 : decode cJ1_newString_b4f7a 10 = .ok (.dup, 1) := by decide +kernel
theorem dJ1_newString_b4f7a_11 : decode cJ1_newString_b4f7a 11 = .ok (.aload_n 0, 1) := by decide +kernel
theorem dJ1_newString_b4f7a_12 : decode cJ1_newString_b4f7a 12 = .ok (.iload_n 1, 1) := by decide +kernel
theorem dJ1_newString_b4f7a_13 : decode cJ1_newString_b4f7a 13 = .ok (.iload_n 1, 1) := by decide +kernel
theorem dJ1_newString_b4f7a_14 : decode cJ1_newString_b4f7a 14 = .ok (.iload_n 2, 1) := by decide +kernel
theorem dJ1_newString_b4f7a_15 : decode cJ1_newString_b4f7a 15 = .ok (.iadd, 1) := by decide +kernel
theorem dJ1_newString_b4f7a_16 : decode cJ1_newString_b4f7a 16 = .ok (.invokestatic 232, 3) := by decide +kernel
theorem dJ1_newString_b4f7a_19 : decode cJ1_newString_b4f7a 19 = .ok (.iconst 0, 1) := by decide +kernel
theorem dJ1_newString_b4f7a_20 : decode cJ1_newString_b4f7a 20 = .ok (.invokespecial 112, 3) := by decide +kernel
theorem dJ1_newString_b4f7a_23 : decode cJ1_newString_b4f7a 23 = .ok (.areturn, 1) := by decide +kernel
theorem dJxa1e45_init_da8c8_0 : decode cJxa1e45_init_da8c8 0 = .ok (.aload_n 0, 1) := by decide +kernel
theorem dJxa1e45_init_da8c8_1 : decode cJxa1e45_init_da8c8 1 = .ok (.invokespecial 1, 3) := by decide +kernel
theorem dJxa1e45_init_da8c8_4 : decode cJxa1e45_init_da8c8 4 = .ok (.return_, 1) := by decide +kernel
set_option maxRecDepth 20000 in
theorem ggJxc12de_init_da8c8_Jxa1e45_init_da8c8 : GoodIn wsJxc12de_init_da8c8 wsJxa1e45_init_da8c8 := goodIn_r _ [5, 6, 7, 8] (by decide +kernel) (by decide +kernel)
set_option maxRecDepth 20000 in
theorem gJxc12de_init_da8c8_Jxa1e45_init_da8c8 : GoodIn wsJxc12de_init_da8c8 (wsJxa1e45_init_da8c8) := ggJxc12de_init_da8c8_Jxa1e45_init_da8c8
theorem dJxc12de_init_da8c8_0 : decode cJxc12de_init_da8c8 0 = .ok (.aload_n 0, 1) := by decide +kernel
theorem dJxc12de_init_da8c8_1 : decode cJxc12de_init_da8c8 1 = .ok (.invokespecial 1, 3) := by decide +kernel
theorem dJxc12de_init_da8c8_4 : decode cJxc12de_init_da8c8 4 = .ok (.aload_n 0, 1) := by decide +kernel
theorem dJxc12de_init_da8c8_5 : decode cJxc12de_init_da8c8 5 = .ok (.iconst 0, 1) := by decide +kernel
theorem dJxc12de_init_da8c8_6 : decode cJxc12de_init_da8c8 6 = .ok (.putfield 7, 3) := by decide +kernel
theorem dJxc12de_init_da8c8_9 : decode cJxc12de_init_da8c8 9 = .ok (.return_, 1) := by decide +kernel
set_option maxRecDepth 20000 in
theorem ggJx4a65c_init_da8c8_Jxc12de_init_da8c8 : GoodIn wsJx4a65c_init_da8c8 wsJxc12de_init_da8c8 := goodIn_r _ [6, 7, 8, 9, 10, 11, 12, 13, 14, 15, 16, 17] (by decide +kernel) (by decide +kernel)
set_option maxRecDepth 20000 in
theorem gJx4a65c_init_da8c8_Jxc12de_init_da8c8 : GoodIn wsJx4a65c_init_da8c8 (wsJxc12de_init_da8c8) := ggJx4a65c_init_da8c8_Jxc12de_init_da8c8
theorem dJx4a65c_init_da8c8_0 : decode cJx4a65c_init_da8c8 0 = .ok (.aload_n 0, 1) := by decide +kernel
theorem dJx4a65c_init_da8c8_1 : decode cJx4a65c_init_da8c8 1 = .ok (.invokespecial 1, 3) := by decide +kernel
theorem dJx4a65c_init_da8c8_4 : decode cJx4a65c_init_da8c8 4 = .ok (.aload_n 0, 1) := by decide +kernel
theorem dJx4a65c_init_da8c8_5 : decode cJx4a65c_init_da8c8 5 = .ok (.getstatic 39, 3) := by decide +kernel
theorem dJx4a65c_init_da8c8_8 : decode cJx4a65c_init_da8c8 8 = .ok (.putfield 9, 3) := by decide +kernel
theorem dJx4a65c_init_da8c8_11 : decode cJx4a65c_init_da8c8 11 = .ok (.return_, 1) := by decide +kernel
theorem dJ7_checkLength_df160_0 : decode cJ7_checkLength_df160 0 = .ok (.iload_n 1, 1) := by decide +kernel
theorem dJ7_checkLength_df160_1 : decode cJ7_checkLength_df160 1 = .ok (.iload_n 0, 1) := by decide +kernel
theorem dJ7_checkLength_df160_2 : decode cJ7_checkLength_df160 2 = .ok (.if_icmp .ge 35, 3) := by decide +kernel
theorem dJ7_checkLength_df160_5 : decode cJ7_checkLength_df160 5 = .ok (.new 43, 3) := by decide +kernel
theorem dJ7_checkLength_df160_8 : decode cJ7_checkLength_df160 8 = .ok (.dup, 1) := by decide +kernel
theorem dJ7_checkLength_df160_9 : decode cJ7_checkLength_df160 9 = .ok (.new 45, 3) := by decide +kernel
theorem dJ7_checkLength_df160_12 : decode cJ7_checkLength_df160 12 = .ok (.dup, 1) := by decide +kernel
theorem dJ7_checkLength_df160_13 : decode cJ7_checkLength_df160 13 = .ok (.invokespecial 47, 3) := by decide +kernel
theorem dJ7_checkLength_df160_16 : decode cJ7_checkLength_df160 16 = .ok (.iload_n 0, 1) := by decide +kernel
theorem dJ7_checkLength_df160_17 : decode cJ7_checkLength_df160 17 = .ok (.invokevirtual 54, 3) := by decide +kernel
theorem dJ7_checkLength_df160_20 : decode cJ7_checkLength_df160 20 = .ok (.ldc_w 337, 3) := by decide +kernel
theorem dJ7_checkLength_df160_23 : decode cJ7_checkLength_df160 23 = .ok (.invokevirtual 50, 3) := by decide +kernel
theorem dJ7_checkLength_df160_26 : decode cJ7_checkLength_df160 26 = .ok (.iload_n 1, 1) := by decide +kernel
theorem dJ7_checkLength_df160_27 : decode cJ7_checkLength_df160 27 = .ok (.invokevirtual 54, 3) := by decide +kernel
theorem dJ7_checkLength_df160_30 : decode cJ7_checkLength_df160 30 = .ok (.invokevirtual 61, 3) := by decide +kernel
theorem dJ7_checkLength_df160_33 : decode cJ7_checkLength_df160 33 = .ok (.invokespecial 65, 3) := by decide +kernel
theorem dJ7_checkLength_df160_36 : decode cJ7_checkLength_df160 36 = .ok (.athrow, 1) := by decide +kernel
theorem dJ7_checkLength_df160_37 : decode cJ7_checkLength_df160 37 = .ok (.return_, 1) := by decide +kernel
set_option maxRecDepth 20000 in
theorem ggJ7_copyOfRange_39247_J7_copyOfRangeByte_39247 : GoodIn wsJ7_copyOfRange_39247 wsJ7_copyOfRangeByte_39247 := goodIn_r _ [10, 11, 12, 13, 14, 15, 16, 17, 18, 19, 20, 21, 9, 22] (by decide +kernel) (by decide +kernel)
set_option maxRecDepth 20000 in
theorem gJ7_copyOfRange_39247_J7_copyOfRangeByte_39247 : GoodIn wsJ7_copyOfRange_39247 (va_wsS RJ7 339 yJ7_copyOfRangeByte_39247 wsJ7_copyOfRangeByte_39247) := goodIn_app (goodIn_of _ (by decide +kernel)) ggJ7_copyOfRange_39247_J7_copyOfRangeByte_39247
theorem dJ7_copyOfRange_39247_0 : decode cJ7_copyOfRange_39247 0 = .ok (.iload_n 1, 1) := by decide +kernel
theorem dJ7_copyOfRange_39247_1 : decode cJ7_copyOfRange_39247 1 = .ok (.ifCond .ne 9, 3) := by decide +kernel
theorem dJ7_copyOfRange_39247_4 : decode cJ7_copyOfRange_39247 4 = .ok (.iload_n 2, 1) := by decide +kernel
theorem dJ7_copyOfRange_39247_5 : decode cJ7_copyOfRange_39247 5 = .ok (.aload_n 0, 1) := by decide +kernel
theorem dJ7_copyOfRange_39247_6 : decode cJ7_copyOfRange_39247 6 = .ok (.arraylength, 1) := by decide +kernel
theorem dJ7_copyOfRange_39247_7 : decode cJ7_copyOfRange_39247 7 = .ok (.if_icmp .eq 10, 3) := by decide +kernel
theorem dJ7_copyOfRange_39247_10 : decode cJ7_copyOfRange_39247 10 = .ok (.aload_n 0, 1) := by decide +kernel
theorem dJ7_copyOfRange_39247_11 : decode cJ7_copyOfRange_39247 11 = .ok (.iload_n 1, 1) := by decide +kernel
theorem dJ7_copyOfRange_39247_12 : decode cJ7_copyOfRange_39247 12 = .ok (.iload_n 2, 1) := by decide +kernel
theorem dJ7_copyOfRange_39247_13 : decode cJ7_copyOfRange_39247 13 = .ok (.invokestatic 339, 3) := by decide +kernel
theorem dJ7_copyOfRange_39247_16 : decode cJ7_copyOfRange_39247 16 = .ok (.areturn, 1) := by decide +kernel
theorem dJ7_copyOfRange_39247_17 : decode cJ7_copyOfRange_39247 17 = .ok (.aload_n 0, 1) := by decide +kernel
theorem dJ7_copyOfRange_39247_18 : decode cJ7_copyOfRange_39247 18 = .ok (.invokevirtual 310, 3) := by decide +kernel
theorem dJ7_copyOfRange_39247_21 : decode cJ7_copyOfRange_39247 21 = .ok (.checkcast 311, 3) := by decide +kernel
theorem dJ7_copyOfRange_39247_24 : decode cJ7_copyOfRange_39247 24 = .ok (.areturn, 1) := by decide +kernel
set_option maxRecDepth 20000 in
theorem ggJ7_copyOfRangeByte_39247_J7_checkLength_df160 : GoodIn wsJ7_copyOfRangeByte_39247 wsJ7_checkLength_df160 := goodIn_r _ [13] (by decide +kernel) (by decide +kernel)
set_option maxRecDepth 20000 in
theorem gJ7_copyOfRangeByte_39247_J7_checkLength_df160 : GoodIn wsJ7_copyOfRangeByte_39247 (va_wsS RJ7 343 yJ7_checkLength_df160 wsJ7_checkLength_df160) := goodIn_app (goodIn_of _ (by decide +kernel)) ggJ7_copyOfRangeByte_39247_J7_checkLength_df160
theorem dJ7_copyOfRangeByte_39247_0 : decode cJ7_copyOfRangeByte_39247 0 = .ok (.iload_n 1, 1) := by decide +kernel
theorem dJ7_copyOfRangeByte_39247_1 : decode cJ7_copyOfRangeByte_39247 1 = .ok (.iload_n 2, 1) := by decide +kernel
theorem dJ7_copyOfRangeByte_39247_2 : decode cJ7_copyOfRangeByte_39247 2 = .ok (.invokestatic 343, 3) := by decide +kernel
theorem dJ7_copyOfRangeByte_39247_5 : decode cJ7_copyOfRangeByte_39247 5 = .ok (.iload_n 2, 1) := by decide +kernel
theorem dJ7_copyOfRangeByte_39247_6 : decode cJ7_copyOfRangeByte_39247 6 = .ok (.iload_n 1, 1) := by decide +kernel
theorem dJ7_copyOfRangeByte_39247_7 : decode cJ7_copyOfRangeByte_39247 7 = .ok (.isub, 1) := by decide +kernel
theorem dJ7_copyOfRangeByte_39247_8 : decode cJ7_copyOfRangeByte_39247 8 = .ok (.istore_n 3, 1) := by decide +kernel
theorem dJ7_copyOfRangeByte_39247_9 : decode cJ7_copyOfRangeByte_39247 9 = .ok (.iload_n 3, 1) := by decide +kernel
theorem dJ7_copyOfRangeByte_39247_10 : decode cJ7_copyOfRangeByte_39247 10 = .ok (.newarray .byte, 2) := by decide +kernel
theorem dJ7_copyOfRangeByte_39247_12 : decode cJ7_copyOfRangeByte_39247 12 = .ok (.astore 4, 2) := by decide +kernel
theorem dJ7_copyOfRangeByte_39247_14 : decode cJ7_copyOfRangeByte_39247 14 = .ok (.aload_n 0, 1) := by decide +kernel
theorem dJ7_copyOfRangeByte_39247_15 : decode cJ7_copyOfRangeByte_39247 15 = .ok (.iload_n 1, 1) := by decide +kernel
theorem dJ7_copyOfRangeByte_39247_16 : decode cJ7_copyOfRangeByte_39247 16 = .ok (.aload 4, 2) := by decide +kernel
theorem dJ7_copyOfRangeByte_39247_18 : decode cJ7_copyOfRangeByte_39247 18 = .ok (.iconst 0, 1) := by decide +kernel
theorem dJ7_copyOfRangeByte_39247_19 : decode cJ7_copyOfRangeByte_39247 19 = .ok (.aload_n 0, 1) := by decide +kernel
theorem dJ7_copyOfRangeByte_39247_20 : decode cJ7_copyOfRangeByte_39247 20 = .ok (.arraylength, 1) := by decide +kernel
theorem dJ7_copyOfRangeByte_39247_21 : decode cJ7_copyOfRangeByte_39247 21 = .ok (.iload_n 1, 1) := by decide +kernel
theorem dJ7_copyOfRangeByte_39247_22 : decode cJ7_copyOfRangeByte_39247 22 = .ok (.isub, 1) := by decide +kernel
theorem dJ7_copyOfRangeByte_39247_23 : decode cJ7_copyOfRangeByte_39247 23 = .ok (.iload_n 3, 1) := by decide +kernel
theorem dJ7_copyOfRangeByte_39247_24 : decode cJ7_copyOfRangeByte_39247 24 = .ok (.invokestatic 304, 3) := by decide +kernel
theorem dJ7_copyOfRangeByte_39247_27 : decode cJ7_copyOfRangeByte_39247 27 = .ok (.invokestatic 150, 3) := by decide +kernel
theorem dJ7_copyOfRangeByte_39247_30 : decode cJ7_copyOfRangeByte_39247 30 = .ok (.aload 4, 2) := by decide +kernel
theorem dJ7_copyOfRangeByte_39247_32 : decode cJ7_copyOfRangeByte_39247 32 = .ok (.areturn, 1) := by decide +kernel
theorem dJ3_checkIndex_8e157_0 : decode cJ3_checkIndex_8e157 0 = .ok (.iload_n 0, 1) := by decide +kernel
theorem dJ3_checkIndex_8e157_1 : decode cJ3_checkIndex_8e157 1 = .ok (.ifCond .lt 8, 3) := by decide +kernel
theorem dJ3_checkIndex_8e157_4 : decode cJ3_checkIndex_8e157 4 = .ok (.iload_n 0, 1) := by decide +kernel
theorem dJ3_checkIndex_8e157_5 : decode cJ3_checkIndex_8e157 5 = .ok (.iload_n 1, 1) := by decide +kernel
theorem dJ3_checkIndex_8e157_6 : decode cJ3_checkIndex_8e157 6 = .ok (.if_icmp .lt 10, 3) := by decide +kernel
theorem dJ3_checkIndex_8e157_9 : decode cJ3_checkIndex_8e157 9 = .ok (.aload_n 2, 1) := by decide +kernel
theorem dJ3_checkIndex_8e157_10 : decode cJ3_checkIndex_8e157 10 = .ok (.iload_n 0, 1) := by decide +kernel
theorem dJ3_checkIndex_8e157_11 : decode cJ3_checkIndex_8e157 11 = .ok (.iload_n 1, 1) := by decide +kernel
theorem dJ3_checkIndex_8e157_12 : decode cJ3_checkIndex_8e157 12 = .ok (.invokestatic 95, 3) := by decide +kernel
theorem dJ3_checkIndex_8e157_15 : decode cJ3_checkIndex_8e157 15 = .ok (.athrow, 1) := by decide +kernel
theorem dJ3_checkIndex_8e157_16 : decode cJ3_checkIndex_8e157 16 = .ok (.iload_n 0, 1) := by decide +kernel
theorem dJ3_checkIndex_8e157_17 : decode cJ3_checkIndex_8e157 17 = .ok (.ireturn, 1) := by decide +kernel
theorem dJ3_checkFromToIndex_8c36e_0 : decode cJ3_checkFromToIndex_8c36e 0 = .ok (.iload_n 0, 1) := by decide +kernel
theorem dJ3_checkFromToIndex_8c36e_1 : decode cJ3_checkFromToIndex_8c36e 1 = .ok (.ifCond .lt 13, 3) := by decide +kernel
theorem dJ3_checkFromToIndex_8c36e_4 : decode cJ3_checkFromToIndex_8c36e 4 = .ok (.iload_n 0, 1) := by decide +kernel
theorem dJ3_checkFromToIndex_8c36e_5 : decode cJ3_checkFromToIndex_8c36e 5 = .ok (.iload_n 1, 1) := by decide +kernel
theorem dJ3_checkFromToIndex_8c36e_6 : decode cJ3_checkFromToIndex_8c36e 6 = .ok (.if_icmp .gt 8, 3) := by decide +kernel
theorem dJ3_checkFromToIndex_8c36e_9 : decode cJ3_checkFromToIndex_8c36e 9 = .ok (.iload_n 1, 1) := by decide +kernel
theorem dJ3_checkFromToIndex_8c36e_10 : decode cJ3_checkFromToIndex_8c36e 10 = .ok (.iload_n 2, 1) := by decide +kernel
theorem dJ3_checkFromToIndex_8c36e_11 : decode cJ3_checkFromToIndex_8c36e 11 = .ok (.if_icmp .le 11, 3) := by decide +kernel
theorem dJ3_checkFromToIndex_8c36e_14 : decode cJ3_checkFromToIndex_8c36e 14 = .ok (.aload_n 3, 1) := by decide +kernel
theorem dJ3_checkFromToIndex_8c36e_15 : decode cJ3_checkFromToIndex_8c36e 15 = .ok (.iload_n 0, 1) := by decide +kernel
theorem dJ3_checkFromToIndex_8c36e_16 : decode cJ3_checkFromToIndex_8c36e 16 = .ok (.iload_n 1, 1) := by decide +kernel
theorem dJ3_checkFromToIndex_8c36e_17 : decode cJ3_checkFromToIndex_8c36e 17 = .ok (.iload_n 2, 1) := by decide +kernel
theorem dJ3_checkFromToIndex_8c36e_18 : decode cJ3_checkFromToIndex_8c36e 18 = .ok (.invokestatic 99, 3) := by decide +kernel
theorem dJ3_checkFromToIndex_8c36e_21 : decode cJ3_checkFromToIndex_8c36e 21 = .ok (.athrow, 1) := by decide +kernel
theorem dJ3_checkFromToIndex_8c36e_22 : decode cJ3_checkFromToIndex_8c36e 22 = .ok (.iload_n 0, 1) := by decide +kernel
theorem dJ3_checkFromToIndex_8c36e_23 : decode cJ3_checkFromToIndex_8c36e 23 = .ok (.ireturn, 1) := by decide +kernel
abbrev vwCl : List vw_C := [(RJ0, TJ0, 4), (RJ4, TJ4, 4), (RJx4a65c, TJx4a65c, 3), (RX1, TX1, 4), (RX2, TX2, 15), (RX3, TX3, 21), (RX4, TX4, 14), (RX5, TX5, 13), (RX6, TX6, 11), (RX7, TX7, 23), (RX8, TX8, 21), (RX9, TX9, 4), (RX10, TX10, 19), (RX11, TX11, 11), (RX12, TX12, 11)]
