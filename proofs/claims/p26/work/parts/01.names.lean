theorem goodIn_r {big : List Cond} (ws : List Cond) (ps : List Nat) (hp : ws = ps.filterMap (fun i => big[i]?)) (h : ws.all goodWord = true) : GoodIn big ws := by
  intro w hw
  have h1 := List.all_eq_true.mp h w hw
  rw [hp] at hw
  obtain ⟨i, -, hi⟩ := List.mem_filterMap.mp hw
  have hm : w ∈ big := by first | exact List.mem_of_getElem? hi | exact List.getElem?_mem hi
  exact ⟨hm, good_of_word h1⟩
theorem goodIn_app {big a b : List Cond} (ha : GoodIn big a) (hb : GoodIn big b) : GoodIn big (a ++ b) := fun w h => (List.mem_append.mp h).elim (ha w) (hb w)
theorem goodIn_ca {big a b : List Cond} {c : Cond} (ha : GoodIn big (c :: a)) (hb : GoodIn big b) : GoodIn big (c :: (a ++ b)) := fun w h => (List.mem_cons.mp h).elim (fun e => ha w (List.mem_cons.mpr (Or.inl e))) (fun h => (List.mem_append.mp h).elim (fun h => ha w (List.mem_cons.mpr (Or.inr h))) (hb w))
theorem goodIn_sub {big ws : List Cond} (hm : ∀ w ∈ ws, w ∈ big) (h : ws.all goodWord = true) : GoodIn big ws := fun w hw => ⟨hm w hw, good_of_word (List.all_eq_true.mp h w hw)⟩
def RX0 : String := "GoalHouse$Acts"
def TX0 : u_T := fun k => match k with
  | _ => ("", "", "", false)
def tyX0 : Nat → FieldType := fun k => match k with
  | _ => .int
abbrev wsX00 : List Cond := u_ws RX0 TX0 0
theorem nmX0 : ∀ a, a < 0 → ∀ b, b < 0 → a ≠ b → (TX0 a).2.1 ≠ (TX0 b).2.1 := by decide +kernel
theorem tyX0_ok : ∀ k, k < 0 → parseFieldDescriptor (TX0 k).2.2.1 = some (tyX0 k) := by decide +kernel
def RX1 : String := "GoalHouse$Call"
def TX1 : u_T := fun k => match k with
  | 0 => ("GoalHouse$Call", "proc", "LGoalHouse$Proc;", true)
  | 1 => ("GoalHouse$Call", "cells", "[LGoalHouse$Val;", true)
  | 2 => ("GoalHouse$Call", "depth", "I", true)
  | _ => ("GoalHouse$Call", "frame", "LGoalHouse$Frame;", true)
def tyX1 : Nat → FieldType := fun k => match k with
  | 0 => .object "GoalHouse$Proc"
  | 1 => .array (.object "GoalHouse$Val")
  | 2 => .int
  | _ => .object "GoalHouse$Frame"
abbrev wsX10 : List Cond := u_ws RX1 TX1 4
theorem nmX1 : ∀ a, a < 4 → ∀ b, b < 4 → a ≠ b → (TX1 a).2.1 ≠ (TX1 b).2.1 := by decide +kernel
theorem tyX1_ok : ∀ k, k < 4 → parseFieldDescriptor (TX1 k).2.2.1 = some (tyX1 k) := by decide +kernel
def RX2 : String := "GoalHouse$Frame"
def TX2 : u_T := fun k => match k with
  | 0 => ("GoalHouse$Frame", "node", "LGoalHouse$Node;", true)
  | 1 => ("GoalHouse$Frame", "up", "LGoalHouse$Frame;", true)
  | 2 => ("GoalHouse$Frame", "prev", "LGoalHouse$Frame;", false)
  | 3 => ("GoalHouse$Frame", "last", "LGoalHouse$Frame;", false)
  | 4 => ("GoalHouse$Frame", "inner", "LGoalHouse$Frame;", false)
  | 5 => ("GoalHouse$Frame", "call", "LGoalHouse$Call;", false)
  | 6 => ("GoalHouse$Frame", "scan", "LGoalHouse$Scan;", false)
  | 7 => ("GoalHouse$Frame", "res", "LGoalHouse$Val;", false)
  | 8 => ("GoalHouse$Frame", "a", "LGoalHouse$Val;", false)
  | 9 => ("GoalHouse$Frame", "b", "LGoalHouse$Val;", false)
  | 10 => ("GoalHouse$Frame", "state", "I", false)
  | 11 => ("GoalHouse$Frame", "more", "I", false)
  | 12 => ("GoalHouse$Frame", "i", "J", false)
  | 13 => ("GoalHouse$Frame", "j", "J", false)
  | _ => ("GoalHouse$Frame", "n", "I", false)
def tyX2 : Nat → FieldType := fun k => match k with
  | 0 => .object "GoalHouse$Node"
  | 1 => .object "GoalHouse$Frame"
  | 2 => .object "GoalHouse$Frame"
  | 3 => .object "GoalHouse$Frame"
  | 4 => .object "GoalHouse$Frame"
  | 5 => .object "GoalHouse$Call"
  | 6 => .object "GoalHouse$Scan"
  | 7 => .object "GoalHouse$Val"
  | 8 => .object "GoalHouse$Val"
  | 9 => .object "GoalHouse$Val"
  | 10 => .int
  | 11 => .int
  | 12 => .long
  | 13 => .long
  | _ => .int
abbrev wsX20 : List Cond := u_ws RX2 TX2 15
theorem nmX2 : ∀ a, a < 15 → ∀ b, b < 15 → a ≠ b → (TX2 a).2.1 ≠ (TX2 b).2.1 := by decide +kernel
theorem tyX2_ok : ∀ k, k < 15 → parseFieldDescriptor (TX2 k).2.2.1 = some (tyX2 k) := by decide +kernel
abbrev cX2_init : ByteArray := prog_4_method_1_code
def yX2_init : MethodName := ⟨RX2, "<init>", "(LGoalHouse$Node;LGoalHouse$Frame;)V"⟩
def RX3 : String := "GoalHouse$Kit"
def TX3 : u_T := fun k => match k with
  | 0 => ("GoalHouse$Kit", "nul", "LGoalHouse$Val;", true)
  | 1 => ("GoalHouse$Kit", "empty", "LGoalHouse$Val;", true)
  | 2 => ("GoalHouse$Kit", "singles", "[LGoalHouse$Val;", true)
  | 3 => ("GoalHouse$Kit", "sets", "[LGoalHouse$Val;", true)
  | 4 => ("GoalHouse$Kit", "library", "[LGoalHouse$Proc;", true)
  | 5 => ("GoalHouse$Kit", "work", "[LGoalHouse$Val;", true)
  | 6 => ("GoalHouse$Kit", "x", "[I", false)
  | 7 => ("GoalHouse$Kit", "y", "[I", false)
  | 8 => ("GoalHouse$Kit", "z", "[I", true)
  | 9 => ("GoalHouse$Kit", "image", "[B", true)
  | 10 => ("GoalHouse$Kit", "imageSize", "I", false)
  | 11 => ("GoalHouse$Kit", "args", "[LGoalHouse$Val;", false)
  | 12 => ("GoalHouse$Kit", "vals", "[LGoalHouse$Val;", false)
  | 13 => ("GoalHouse$Kit", "argCount", "I", false)
  | 14 => ("GoalHouse$Kit", "bag", "LGoalHouse$Thing;", true)
  | 15 => ("GoalHouse$Kit", "bestSign", "I", false)
  | 16 => ("GoalHouse$Kit", "called", "LGoalHouse$Val;", false)
  | 17 => ("GoalHouse$Kit", "cells", "I", false)
  | 18 => ("GoalHouse$Kit", "steps", "I", false)
  | 19 => ("GoalHouse$Kit", "breakNumber", "I", false)
  | _ => ("GoalHouse$Kit", "breakValue", "LGoalHouse$Val;", false)
def tyX3 : Nat → FieldType := fun k => match k with
  | 0 => .object "GoalHouse$Val"
  | 1 => .object "GoalHouse$Val"
  | 2 => .array (.object "GoalHouse$Val")
  | 3 => .array (.object "GoalHouse$Val")
  | 4 => .array (.object "GoalHouse$Proc")
  | 5 => .array (.object "GoalHouse$Val")
  | 6 => .array .int
  | 7 => .array .int
  | 8 => .array .int
  | 9 => .array .byte
  | 10 => .int
  | 11 => .array (.object "GoalHouse$Val")
  | 12 => .array (.object "GoalHouse$Val")
  | 13 => .int
  | 14 => .object "GoalHouse$Thing"
  | 15 => .int
  | 16 => .object "GoalHouse$Val"
  | 17 => .int
  | 18 => .int
  | 19 => .int
  | _ => .object "GoalHouse$Val"
abbrev wsX30 : List Cond := u_ws RX3 TX3 21
theorem nmX3 : ∀ a, a < 21 → ∀ b, b < 21 → a ≠ b → (TX3 a).2.1 ≠ (TX3 b).2.1 := by decide +kernel
theorem tyX3_ok : ∀ k, k < 21 → parseFieldDescriptor (TX3 k).2.2.1 = some (tyX3 k) := by decide +kernel
abbrev cX3_breaks : ByteArray := prog_5_method_4_code
def yX3_breaks : MethodName := ⟨RX3, "breaks", "(ILGoalHouse$Val;)I"⟩
def RX4 : String := "GoalHouse$Node"
def TX4 : u_T := fun k => match k with
  | 0 => ("GoalHouse$Node", "kind", "I", true)
  | 1 => ("GoalHouse$Node", "op", "I", false)
  | 2 => ("GoalHouse$Node", "place", "I", true)
  | 3 => ("GoalHouse$Node", "proc", "I", false)
  | 4 => ("GoalHouse$Node", "id", "I", false)
  | 5 => ("GoalHouse$Node", "kid", "LGoalHouse$Node;", false)
  | 6 => ("GoalHouse$Node", "tail", "LGoalHouse$Node;", false)
  | 7 => ("GoalHouse$Node", "next", "LGoalHouse$Node;", false)
  | 8 => ("GoalHouse$Node", "kids", "I", false)
  | 9 => ("GoalHouse$Node", "name", "Ljava/lang/String;", false)
  | 10 => ("GoalHouse$Node", "lit", "LGoalHouse$Val;", false)
  | 11 => ("GoalHouse$Node", "scope", "I", false)
  | 12 => ("GoalHouse$Node", "slot", "I", false)
  | _ => ("GoalHouse$Node", "loop", "LGoalHouse$Node;", false)
def tyX4 : Nat → FieldType := fun k => match k with
  | 0 => .int
  | 1 => .int
  | 2 => .int
  | 3 => .int
  | 4 => .int
  | 5 => .object "GoalHouse$Node"
  | 6 => .object "GoalHouse$Node"
  | 7 => .object "GoalHouse$Node"
  | 8 => .int
  | 9 => .object "java/lang/String"
  | 10 => .object "GoalHouse$Val"
  | 11 => .int
  | 12 => .int
  | _ => .object "GoalHouse$Node"
abbrev wsX40 : List Cond := u_ws RX4 TX4 14
theorem nmX4 : ∀ a, a < 14 → ∀ b, b < 14 → a ≠ b → (TX4 a).2.1 ≠ (TX4 b).2.1 := by decide +kernel
theorem tyX4_ok : ∀ k, k < 14 → parseFieldDescriptor (TX4 k).2.2.1 = some (tyX4 k) := by decide +kernel
def RX5 : String := "GoalHouse$Proc"
def TX5 : u_T := fun k => match k with
  | 0 => ("GoalHouse$Proc", "name", "Ljava/lang/String;", true)
  | 1 => ("GoalHouse$Proc", "kind", "I", true)
  | 2 => ("GoalHouse$Proc", "index", "I", false)
  | 3 => ("GoalHouse$Proc", "place", "I", false)
  | 4 => ("GoalHouse$Proc", "names", "Ljava/util/ArrayList;", true)
  | 5 => ("GoalHouse$Proc", "statics", "Ljava/util/ArrayList;", true)
  | 6 => ("GoalHouse$Proc", "params", "I", false)
  | 7 => ("GoalHouse$Proc", "told", "I", false)
  | 8 => ("GoalHouse$Proc", "rest", "Z", false)
  | 9 => ("GoalHouse$Proc", "staticBase", "I", false)
  | 10 => ("GoalHouse$Proc", "first", "LGoalHouse$Node;", false)
  | 11 => ("GoalHouse$Proc", "body", "LGoalHouse$Node;", false)
  | _ => ("GoalHouse$Proc", "val", "LGoalHouse$Val;", false)
def tyX5 : Nat → FieldType := fun k => match k with
  | 0 => .object "java/lang/String"
  | 1 => .int
  | 2 => .int
  | 3 => .int
  | 4 => .object "java/util/ArrayList"
  | 5 => .object "java/util/ArrayList"
  | 6 => .int
  | 7 => .int
  | 8 => .boolean
  | 9 => .int
  | 10 => .object "GoalHouse$Node"
  | 11 => .object "GoalHouse$Node"
  | _ => .object "GoalHouse$Val"
abbrev wsX50 : List Cond := u_ws RX5 TX5 13
theorem nmX5 : ∀ a, a < 13 → ∀ b, b < 13 → a ≠ b → (TX5 a).2.1 ≠ (TX5 b).2.1 := by decide +kernel
theorem tyX5_ok : ∀ k, k < 13 → parseFieldDescriptor (TX5 k).2.2.1 = some (tyX5 k) := by decide +kernel
def RX6 : String := "GoalHouse$Program"
def TX6 : u_T := fun k => match k with
  | 0 => ("GoalHouse$Program", "nodes", "Ljava/util/ArrayList;", true)
  | 1 => ("GoalHouse$Program", "procs", "Ljava/util/ArrayList;", true)
  | 2 => ("GoalHouse$Program", "records", "Ljava/util/ArrayList;", true)
  | 3 => ("GoalHouse$Program", "globals", "Ljava/util/ArrayList;", true)
  | 4 => ("GoalHouse$Program", "items", "Ljava/util/ArrayList;", true)
  | 5 => ("GoalHouse$Program", "written", "Ljava/lang/StringBuilder;", true)
  | 6 => ("GoalHouse$Program", "staticCount", "I", false)
  | 7 => ("GoalHouse$Program", "glue", "Z", false)
  | 8 => ("GoalHouse$Program", "todo", "[LGoalHouse$Node;", false)
  | 9 => ("GoalHouse$Program", "ways", "[I", false)
  | _ => ("GoalHouse$Program", "open", "I", false)
def tyX6 : Nat → FieldType := fun k => match k with
  | 0 => .object "java/util/ArrayList"
  | 1 => .object "java/util/ArrayList"
  | 2 => .object "java/util/ArrayList"
  | 3 => .object "java/util/ArrayList"
  | 4 => .object "java/util/ArrayList"
  | 5 => .object "java/lang/StringBuilder"
  | 6 => .int
  | 7 => .boolean
  | 8 => .array (.object "GoalHouse$Node")
  | 9 => .array .int
  | _ => .int
abbrev wsX60 : List Cond := u_ws RX6 TX6 11
theorem nmX6 : ∀ a, a < 11 → ∀ b, b < 11 → a ≠ b → (TX6 a).2.1 ≠ (TX6 b).2.1 := by decide +kernel
theorem tyX6_ok : ∀ k, k < 11 → parseFieldDescriptor (TX6 k).2.2.1 = some (tyX6 k) := by decide +kernel
def RX7 : String := "GoalHouse$Reader"
def TX7 : u_T := fun k => match k with
  | 0 => ("GoalHouse$Reader", "kit", "LGoalHouse$Kit;", false)
  | 1 => ("GoalHouse$Reader", "text", "[B", false)
  | 2 => ("GoalHouse$Reader", "size", "I", false)
  | 3 => ("GoalHouse$Reader", "at", "I", false)
  | 4 => ("GoalHouse$Reader", "kind", "I", false)
  | 5 => ("GoalHouse$Reader", "id", "I", false)
  | 6 => ("GoalHouse$Reader", "place", "I", false)
  | 7 => ("GoalHouse$Reader", "semi", "Z", false)
  | 8 => ("GoalHouse$Reader", "name", "Ljava/lang/String;", false)
  | 9 => ("GoalHouse$Reader", "lit", "LGoalHouse$Val;", false)
  | 10 => ("GoalHouse$Reader", "fault", "I", false)
  | 11 => ("GoalHouse$Reader", "faultAt", "I", false)
  | 12 => ("GoalHouse$Reader", "program", "LGoalHouse$Program;", false)
  | 13 => ("GoalHouse$Reader", "proc", "LGoalHouse$Proc;", false)
  | 14 => ("GoalHouse$Reader", "state", "I", false)
  | 15 => ("GoalHouse$Reader", "types", "[I", true)
  | 16 => ("GoalHouse$Reader", "nodes", "[LGoalHouse$Node;", true)
  | 17 => ("GoalHouse$Reader", "loops", "[LGoalHouse$Node;", true)
  | 18 => ("GoalHouse$Reader", "top", "I", false)
  | 19 => ("GoalHouse$Reader", "open", "I", false)
  | 20 => ("GoalHouse$Reader", "left", "LGoalHouse$Node;", false)
  | 21 => ("GoalHouse$Reader", "loop", "LGoalHouse$Node;", false)
  | _ => ("GoalHouse$Reader", "barred", "I", false)
def tyX7 : Nat → FieldType := fun k => match k with
  | 0 => .object "GoalHouse$Kit"
  | 1 => .array .byte
  | 2 => .int
  | 3 => .int
  | 4 => .int
  | 5 => .int
  | 6 => .int
  | 7 => .boolean
  | 8 => .object "java/lang/String"
  | 9 => .object "GoalHouse$Val"
  | 10 => .int
  | 11 => .int
  | 12 => .object "GoalHouse$Program"
  | 13 => .object "GoalHouse$Proc"
  | 14 => .int
  | 15 => .array .int
  | 16 => .array (.object "GoalHouse$Node")
  | 17 => .array (.object "GoalHouse$Node")
  | 18 => .int
  | 19 => .int
  | 20 => .object "GoalHouse$Node"
  | 21 => .object "GoalHouse$Node"
  | _ => .int
abbrev wsX70 : List Cond := u_ws RX7 TX7 23
theorem nmX7 : ∀ a, a < 23 → ∀ b, b < 23 → a ≠ b → (TX7 a).2.1 ≠ (TX7 b).2.1 := by decide +kernel
theorem tyX7_ok : ∀ k, k < 23 → parseFieldDescriptor (TX7 k).2.2.1 = some (tyX7 k) := by decide +kernel
def RX8 : String := "GoalHouse$Run"
def TX8 : u_T := fun k => match k with
  | 0 => ("GoalHouse$Run", "kit", "LGoalHouse$Kit;", true)
  | 1 => ("GoalHouse$Run", "program", "LGoalHouse$Program;", false)
  | 2 => ("GoalHouse$Run", "told", "[I", true)
  | 3 => ("GoalHouse$Run", "seed", "I", false)
  | 4 => ("GoalHouse$Run", "input", "[B", false)
  | 5 => ("GoalHouse$Run", "out", "[B", true)
  | 6 => ("GoalHouse$Run", "events", "[I", true)
  | 7 => ("GoalHouse$Run", "counts", "[I", true)
  | 8 => ("GoalHouse$Run", "globals", "[LGoalHouse$Val;", false)
  | 9 => ("GoalHouse$Run", "statics", "[LGoalHouse$Val;", false)
  | 10 => ("GoalHouse$Run", "initiated", "[Z", false)
  | 11 => ("GoalHouse$Run", "things", "Ljava/util/ArrayList;", true)
  | 12 => ("GoalHouse$Run", "made", "[B", false)
  | 13 => ("GoalHouse$Run", "base", "LGoalHouse$Scan;", false)
  | 14 => ("GoalHouse$Run", "errorNumber", "LGoalHouse$Val;", false)
  | 15 => ("GoalHouse$Run", "errorValue", "LGoalHouse$Val;", false)
  | 16 => ("GoalHouse$Run", "mode", "I", false)
  | 17 => ("GoalHouse$Run", "cur", "LGoalHouse$Frame;", false)
  | 18 => ("GoalHouse$Run", "active", "LGoalHouse$Thing;", false)
  | 19 => ("GoalHouse$Run", "goalFrame", "LGoalHouse$Frame;", false)
  | _ => ("GoalHouse$Run", "result", "LGoalHouse$Val;", false)
def tyX8 : Nat → FieldType := fun k => match k with
  | 0 => .object "GoalHouse$Kit"
  | 1 => .object "GoalHouse$Program"
  | 2 => .array .int
  | 3 => .int
  | 4 => .array .byte
  | 5 => .array .byte
  | 6 => .array .int
  | 7 => .array .int
  | 8 => .array (.object "GoalHouse$Val")
  | 9 => .array (.object "GoalHouse$Val")
  | 10 => .array .boolean
  | 11 => .object "java/util/ArrayList"
  | 12 => .array .byte
  | 13 => .object "GoalHouse$Scan"
  | 14 => .object "GoalHouse$Val"
  | 15 => .object "GoalHouse$Val"
  | 16 => .int
  | 17 => .object "GoalHouse$Frame"
  | 18 => .object "GoalHouse$Thing"
  | 19 => .object "GoalHouse$Frame"
  | _ => .object "GoalHouse$Val"
abbrev wsX80 : List Cond := u_ws RX8 TX8 21
theorem nmX8 : ∀ a, a < 21 → ∀ b, b < 21 → a ≠ b → (TX8 a).2.1 ≠ (TX8 b).2.1 := by decide +kernel
theorem tyX8_ok : ∀ k, k < 21 → parseFieldDescriptor (TX8 k).2.2.1 = some (tyX8 k) := by decide +kernel
abbrev cX8_finish : ByteArray := prog_10_method_7_code
def yX8_finish : MethodName := ⟨RX8, "finish", "()V"⟩
abbrev cX8_leaveParts : ByteArray := prog_10_method_9_code
def yX8_leaveParts : MethodName := ⟨RX8, "leaveParts", "()V"⟩
abbrev cX8_inGoal : ByteArray := prog_10_method_10_code
def yX8_inGoal : MethodName := ⟨RX8, "inGoal", "()Z"⟩
abbrev cX8_goalEnds : ByteArray := prog_10_method_13_code
def yX8_goalEnds : MethodName := ⟨RX8, "goalEnds", "(I)V"⟩
abbrev cX8_log : ByteArray := prog_10_method_17_code
def yX8_log : MethodName := ⟨RX8, "log", "(ILGoalHouse$Call;)V"⟩
abbrev cX8_tally : ByteArray := prog_10_method_18_code
def yX8_tally : MethodName := ⟨RX8, "tally", "(LGoalHouse$Frame;I)V"⟩
abbrev cX8_value : ByteArray := prog_10_method_26_code
def yX8_value : MethodName := ⟨RX8, "value", "(LGoalHouse$Val;)LGoalHouse$Val;"⟩
abbrev cX8_control : ByteArray := prog_10_method_36_code
def yX8_control : MethodName := ⟨RX8, "control", "(LGoalHouse$Frame;)V"⟩
abbrev cX8_leave : ByteArray := prog_10_method_37_code
def yX8_leave : MethodName := ⟨RX8, "leave", "(LGoalHouse$Frame;)V"⟩
abbrev cX8_turnTo : ByteArray := prog_10_method_38_code
def yX8_turnTo : MethodName := ⟨RX8, "turnTo", "(ILGoalHouse$Frame;)V"⟩
abbrev cX8_give : ByteArray := prog_10_method_39_code
def yX8_give : MethodName := ⟨RX8, "give", "(LGoalHouse$Frame;LGoalHouse$Val;)V"⟩
abbrev cX8_again : ByteArray := prog_10_method_40_code
def yX8_again : MethodName := ⟨RX8, "again", "(LGoalHouse$Frame;)V"⟩
abbrev cX8_noMore : ByteArray := prog_10_method_41_code
def yX8_noMore : MethodName := ⟨RX8, "noMore", "(LGoalHouse$Frame;)V"⟩
abbrev cX8_allowed : ByteArray := prog_10_method_43_code
def yX8_allowed : MethodName := ⟨RX8, "allowed", "(LGoalHouse$Frame;LGoalHouse$Frame;)Z"⟩
abbrev cX8_operand : ByteArray := prog_10_method_44_code
def yX8_operand : MethodName := ⟨RX8, "operand", "(LGoalHouse$Frame;LGoalHouse$Node;)V"⟩
abbrev cX8_inner : ByteArray := prog_10_method_45_code
def yX8_inner : MethodName := ⟨RX8, "inner", "(LGoalHouse$Frame;LGoalHouse$Node;I)LGoalHouse$Frame;"⟩
abbrev cX8_operands : ByteArray := prog_10_method_46_code
def yX8_operands : MethodName := ⟨RX8, "operands", "(LGoalHouse$Frame;LGoalHouse$Node;)V"⟩
abbrev cX8_begin : ByteArray := prog_10_method_47_code
def yX8_begin : MethodName := ⟨RX8, "begin", "(LGoalHouse$Frame;)V"⟩
abbrev cX8_cellOf : ByteArray := prog_10_method_48_code
def yX8_cellOf : MethodName := ⟨RX8, "cellOf", "(LGoalHouse$Frame;LGoalHouse$Node;)LGoalHouse$Val;"⟩
abbrev cX8_beginKey : ByteArray := prog_10_method_49_code
def yX8_beginKey : MethodName := ⟨RX8, "beginKey", "(LGoalHouse$Frame;I)V"⟩
abbrev cX8_beginOperator : ByteArray := prog_10_method_50_code
def yX8_beginOperator : MethodName := ⟨RX8, "beginOperator", "(LGoalHouse$Frame;LGoalHouse$Node;)V"⟩
abbrev cX8_inSequence : ByteArray := prog_10_method_51_code
def yX8_inSequence : MethodName := ⟨RX8, "inSequence", "(LGoalHouse$Frame;LGoalHouse$Node;)V"⟩
abbrev cX8_beginWord : ByteArray := prog_10_method_52_code
def yX8_beginWord : MethodName := ⟨RX8, "beginWord", "(LGoalHouse$Frame;LGoalHouse$Node;)V"⟩
abbrev cX8_jump : ByteArray := prog_10_method_53_code
def yX8_jump : MethodName := ⟨RX8, "jump", "(LGoalHouse$Frame;LGoalHouse$Node;)V"⟩
abbrev cX8_goOnLoop : ByteArray := prog_10_method_54_code
def yX8_goOnLoop : MethodName := ⟨RX8, "goOnLoop", "(LGoalHouse$Frame;)V"⟩
abbrev cX8_resume : ByteArray := prog_10_method_55_code
def yX8_resume : MethodName := ⟨RX8, "resume", "(LGoalHouse$Frame;)V"⟩
abbrev cX8_gave : ByteArray := prog_10_method_56_code
def yX8_gave : MethodName := ⟨RX8, "gave", "(LGoalHouse$Frame;LGoalHouse$Frame;)V"⟩
abbrev cX8_failed : ByteArray := prog_10_method_57_code
def yX8_failed : MethodName := ⟨RX8, "failed", "(LGoalHouse$Frame;LGoalHouse$Frame;)V"⟩
abbrev cX8_gaveValue : ByteArray := prog_10_method_58_code
def yX8_gaveValue : MethodName := ⟨RX8, "gaveValue", "(LGoalHouse$Frame;LGoalHouse$Frame;)V"⟩
abbrev cX8_conditionGave : ByteArray := prog_10_method_59_code
def yX8_conditionGave : MethodName := ⟨RX8, "conditionGave", "(LGoalHouse$Frame;LGoalHouse$Frame;)V"⟩
abbrev cX8_conditionFailed : ByteArray := prog_10_method_60_code
def yX8_conditionFailed : MethodName := ⟨RX8, "conditionFailed", "(LGoalHouse$Frame;LGoalHouse$Frame;)V"⟩
abbrev cX8_bodyDone : ByteArray := prog_10_method_61_code
def yX8_bodyDone : MethodName := ⟨RX8, "bodyDone", "(LGoalHouse$Frame;)V"⟩
abbrev cX8_caseGave : ByteArray := prog_10_method_62_code
def yX8_caseGave : MethodName := ⟨RX8, "caseGave", "(LGoalHouse$Frame;LGoalHouse$Frame;LGoalHouse$Val;)V"⟩
abbrev cX8_nextClause : ByteArray := prog_10_method_63_code
def yX8_nextClause : MethodName := ⟨RX8, "nextClause", "(LGoalHouse$Frame;LGoalHouse$Node;)V"⟩
abbrev cX8_enter : ByteArray := prog_10_method_64_code
def yX8_enter : MethodName := ⟨RX8, "enter", "(LGoalHouse$Frame;LGoalHouse$Call;)V"⟩
abbrev cX8_begunBody : ByteArray := prog_10_method_65_code
def yX8_begunBody : MethodName := ⟨RX8, "begunBody", "(LGoalHouse$Frame;LGoalHouse$Call;)V"⟩
abbrev cX8_nextStatement : ByteArray := prog_10_method_66_code
def yX8_nextStatement : MethodName := ⟨RX8, "nextStatement", "(LGoalHouse$Frame;LGoalHouse$Frame;)V"⟩
abbrev cX8_callFails : ByteArray := prog_10_method_68_code
def yX8_callFails : MethodName := ⟨RX8, "callFails", "(LGoalHouse$Call;)V"⟩
abbrev cX8_doReturn : ByteArray := prog_10_method_69_code
def yX8_doReturn : MethodName := ⟨RX8, "doReturn", "(LGoalHouse$Call;LGoalHouse$Val;)V"⟩
abbrev cX8_doSuspend : ByteArray := prog_10_method_70_code
def yX8_doSuspend : MethodName := ⟨RX8, "doSuspend", "(LGoalHouse$Frame;LGoalHouse$Val;)V"⟩
abbrev cX8_leaveCall : ByteArray := prog_10_method_71_code
def yX8_leaveCall : MethodName := ⟨RX8, "leaveCall", "(LGoalHouse$Frame;LGoalHouse$Val;)V"⟩
abbrev cX8_goOnCall : ByteArray := prog_10_method_72_code
def yX8_goOnCall : MethodName := ⟨RX8, "goOnCall", "(LGoalHouse$Frame;LGoalHouse$Frame;)V"⟩
abbrev cX8_partGave : ByteArray := prog_10_method_74_code
def yX8_partGave : MethodName := ⟨RX8, "partGave", "(LGoalHouse$Val;)V"⟩
abbrev cX8_partFailed : ByteArray := prog_10_method_75_code
def yX8_partFailed : MethodName := ⟨RX8, "partFailed", "(LGoalHouse$Frame;)V"⟩
def RX9 : String := "GoalHouse$Scan"
def TX9 : u_T := fun k => match k with
  | 0 => ("GoalHouse$Scan", "subject", "LGoalHouse$Val;", false)
  | 1 => ("GoalHouse$Scan", "pos", "I", false)
  | 2 => ("GoalHouse$Scan", "subjectCell", "LGoalHouse$Val;", false)
  | _ => ("GoalHouse$Scan", "posCell", "LGoalHouse$Val;", false)
def tyX9 : Nat → FieldType := fun k => match k with
  | 0 => .object "GoalHouse$Val"
  | 1 => .int
  | 2 => .object "GoalHouse$Val"
  | _ => .object "GoalHouse$Val"
abbrev wsX90 : List Cond := u_ws RX9 TX9 4
theorem nmX9 : ∀ a, a < 4 → ∀ b, b < 4 → a ≠ b → (TX9 a).2.1 ≠ (TX9 b).2.1 := by decide +kernel
theorem tyX9_ok : ∀ k, k < 4 → parseFieldDescriptor (TX9 k).2.2.1 = some (tyX9 k) := by decide +kernel
abbrev cX9_cellOf : ByteArray := prog_11_method_2_code
def yX9_cellOf : MethodName := ⟨RX9, "cellOf", "(I)LGoalHouse$Val;"⟩
def RX10 : String := "GoalHouse$Thing"
def TX10 : u_T := fun k => match k with
  | 0 => ("GoalHouse$Thing", "kind", "I", true)
  | 1 => ("GoalHouse$Thing", "self", "LGoalHouse$Val;", true)
  | 2 => ("GoalHouse$Thing", "number", "I", false)
  | 3 => ("GoalHouse$Thing", "items", "[LGoalHouse$Val;", false)
  | 4 => ("GoalHouse$Thing", "keys", "[LGoalHouse$Val;", false)
  | 5 => ("GoalHouse$Thing", "head", "I", false)
  | 6 => ("GoalHouse$Thing", "size", "I", false)
  | 7 => ("GoalHouse$Thing", "used", "I", false)
  | 8 => ("GoalHouse$Thing", "heads", "[I", false)
  | 9 => ("GoalHouse$Thing", "links", "[I", false)
  | 10 => ("GoalHouse$Thing", "other", "LGoalHouse$Val;", false)
  | 11 => ("GoalHouse$Thing", "maker", "LGoalHouse$Proc;", false)
  | 12 => ("GoalHouse$Thing", "call", "LGoalHouse$Call;", false)
  | 13 => ("GoalHouse$Thing", "frame", "LGoalHouse$Frame;", false)
  | 14 => ("GoalHouse$Thing", "waiter", "LGoalHouse$Frame;", false)
  | 15 => ("GoalHouse$Thing", "prior", "LGoalHouse$Thing;", false)
  | 16 => ("GoalHouse$Thing", "state", "I", false)
  | 17 => ("GoalHouse$Thing", "goal", "I", false)
  | _ => ("GoalHouse$Thing", "level", "I", false)
def tyX10 : Nat → FieldType := fun k => match k with
  | 0 => .int
  | 1 => .object "GoalHouse$Val"
  | 2 => .int
  | 3 => .array (.object "GoalHouse$Val")
  | 4 => .array (.object "GoalHouse$Val")
  | 5 => .int
  | 6 => .int
  | 7 => .int
  | 8 => .array .int
  | 9 => .array .int
  | 10 => .object "GoalHouse$Val"
  | 11 => .object "GoalHouse$Proc"
  | 12 => .object "GoalHouse$Call"
  | 13 => .object "GoalHouse$Frame"
  | 14 => .object "GoalHouse$Frame"
  | 15 => .object "GoalHouse$Thing"
  | 16 => .int
  | 17 => .int
  | _ => .int
abbrev wsX100 : List Cond := u_ws RX10 TX10 19
theorem nmX10 : ∀ a, a < 19 → ∀ b, b < 19 → a ≠ b → (TX10 a).2.1 ≠ (TX10 b).2.1 := by decide +kernel
theorem tyX10_ok : ∀ k, k < 19 → parseFieldDescriptor (TX10 k).2.2.1 = some (tyX10 k) := by decide +kernel
abbrev cX10_find : ByteArray := prog_12_method_11_code
def yX10_find : MethodName := ⟨RX10, "find", "(LGoalHouse$Val;)I"⟩
def RX11 : String := "GoalHouse$Val"
def TX11 : u_T := fun k => match k with
  | 0 => ("GoalHouse$Val", "kind", "I", true)
  | 1 => ("GoalHouse$Val", "num", "J", false)
  | 2 => ("GoalHouse$Val", "big", "[I", false)
  | 3 => ("GoalHouse$Val", "bytes", "[B", false)
  | 4 => ("GoalHouse$Val", "off", "I", false)
  | 5 => ("GoalHouse$Val", "len", "I", false)
  | 6 => ("GoalHouse$Val", "bits", "[J", false)
  | 7 => ("GoalHouse$Val", "thing", "LGoalHouse$Thing;", false)
  | 8 => ("GoalHouse$Val", "in", "LGoalHouse$Val;", false)
  | 9 => ("GoalHouse$Val", "scan", "LGoalHouse$Scan;", false)
  | _ => ("GoalHouse$Val", "proc", "LGoalHouse$Proc;", false)
def tyX11 : Nat → FieldType := fun k => match k with
  | 0 => .int
  | 1 => .long
  | 2 => .array .int
  | 3 => .array .byte
  | 4 => .int
  | 5 => .int
  | 6 => .array .long
  | 7 => .object "GoalHouse$Thing"
  | 8 => .object "GoalHouse$Val"
  | 9 => .object "GoalHouse$Scan"
  | _ => .object "GoalHouse$Proc"
abbrev wsX110 : List Cond := u_ws RX11 TX11 11
theorem nmX11 : ∀ a, a < 11 → ∀ b, b < 11 → a ≠ b → (TX11 a).2.1 ≠ (TX11 b).2.1 := by decide +kernel
theorem tyX11_ok : ∀ k, k < 11 → parseFieldDescriptor (TX11 k).2.2.1 = some (tyX11 k) := by decide +kernel
abbrev cX11_init : ByteArray := prog_13_method_1_code
def yX11_init : MethodName := ⟨RX11, "<init>", "(I)V"⟩
abbrev cX11_whole : ByteArray := prog_13_method_2_code
def yX11_whole : MethodName := ⟨RX11, "whole", "(J)LGoalHouse$Val;"⟩
abbrev cX11_text : ByteArray := prog_13_method_3_code
def yX11_text : MethodName := ⟨RX11, "text", "([BII)LGoalHouse$Val;"⟩
abbrev cX11_alike : ByteArray := prog_13_method_11_code
def yX11_alike : MethodName := ⟨RX11, "alike", "(LGoalHouse$Val;LGoalHouse$Val;)Z"⟩
abbrev cX11_sameWhole : ByteArray := prog_13_method_12_code
def yX11_sameWhole : MethodName := ⟨RX11, "sameWhole", "(LGoalHouse$Val;LGoalHouse$Val;)Z"⟩
abbrev cX11_sameText : ByteArray := prog_13_method_13_code
def yX11_sameText : MethodName := ⟨RX11, "sameText", "(LGoalHouse$Val;LGoalHouse$Val;)Z"⟩
abbrev cX11_sameSet : ByteArray := prog_13_method_14_code
def yX11_sameSet : MethodName := ⟨RX11, "sameSet", "(LGoalHouse$Val;LGoalHouse$Val;)Z"⟩
abbrev cX11_hash : ByteArray := prog_13_method_15_code
def yX11_hash : MethodName := ⟨RX11, "hash", "()I"⟩
def RX12 : String := "GoalHouse"
def TX12 : u_T := fun k => match k with
  | 0 => ("GoalHouse", "tape", "[B", true)
  | 1 => ("GoalHouse", "size", "I", false)
  | 2 => ("GoalHouse", "programs", "[LGoalHouse$Program;", true)
  | 3 => ("GoalHouse", "runs", "[LGoalHouse$Run;", true)
  | 4 => ("GoalHouse", "rooms", "[LGoalHouse$Run;", true)
  | 5 => ("GoalHouse", "kit", "LGoalHouse$Kit;", true)
  | 6 => ("GoalHouse", "reader", "LGoalHouse$Reader;", true)
  | 7 => ("GoalHouse", "fault", "I", false)
  | 8 => ("GoalHouse", "faultPlace", "I", false)
  | 9 => ("GoalHouse", "shown", "[B", false)
  | _ => ("GoalHouse", "shownSize", "I", false)
def tyX12 : Nat → FieldType := fun k => match k with
  | 0 => .array .byte
  | 1 => .int
  | 2 => .array (.object "GoalHouse$Program")
  | 3 => .array (.object "GoalHouse$Run")
  | 4 => .array (.object "GoalHouse$Run")
  | 5 => .object "GoalHouse$Kit"
  | 6 => .object "GoalHouse$Reader"
  | 7 => .int
  | 8 => .int
  | 9 => .array .byte
  | _ => .int
abbrev wsX120 : List Cond := u_ws RX12 TX12 11
theorem nmX12 : ∀ a, a < 11 → ∀ b, b < 11 → a ≠ b → (TX12 a).2.1 ≠ (TX12 b).2.1 := by decide +kernel
theorem tyX12_ok : ∀ k, k < 11 → parseFieldDescriptor (TX12 k).2.2.1 = some (tyX12 k) := by decide +kernel
def RX13 : String := "GoalHouseModel"
def TX13 : u_T := fun k => match k with
  | _ => ("", "", "", false)
def tyX13 : Nat → FieldType := fun k => match k with
  | _ => .int
abbrev wsX130 : List Cond := u_ws RX13 TX13 0
theorem nmX13 : ∀ a, a < 0 → ∀ b, b < 0 → a ≠ b → (TX13 a).2.1 ≠ (TX13 b).2.1 := by decide +kernel
theorem tyX13_ok : ∀ k, k < 0 → parseFieldDescriptor (TX13 k).2.2.1 = some (tyX13 k) := by decide +kernel
def RJx145de : String := "java/io/Serializable"
def TJx145de : u_T := fun k => match k with
  | _ => ("", "", "", false)
def tyJx145de : Nat → FieldType := fun k => match k with
  | _ => .int
theorem nmJx145de : ∀ a, a < 0 → ∀ b, b < 0 → a ≠ b → (TJx145de a).2.1 ≠ (TJx145de b).2.1 := by decide +kernel
theorem tyJx145de_ok : ∀ k, k < 0 → parseFieldDescriptor (TJx145de k).2.2.1 = some (tyJx145de k) := by decide +kernel
def RJ5 : String := "java/lang/AbstractStringBuilder"
def TJ5 : u_T := fun k => match k with
  | _ => ("", "", "", false)
def tyJ5 : Nat → FieldType := fun k => match k with
  | _ => .int
theorem nmJ5 : ∀ a, a < 0 → ∀ b, b < 0 → a ≠ b → (TJ5 a).2.1 ≠ (TJ5 b).2.1 := by decide +kernel
theorem tyJ5_ok : ∀ k, k < 0 → parseFieldDescriptor (TJ5 k).2.2.1 = some (tyJ5 k) := by decide +kernel
def RJx2cfe8 : String := "java/lang/Appendable"
def TJx2cfe8 : u_T := fun k => match k with
  | _ => ("", "", "", false)
def tyJx2cfe8 : Nat → FieldType := fun k => match k with
  | _ => .int
theorem nmJx2cfe8 : ∀ a, a < 0 → ∀ b, b < 0 → a ≠ b → (TJx2cfe8 a).2.1 ≠ (TJx2cfe8 b).2.1 := by decide +kernel
theorem tyJx2cfe8_ok : ∀ k, k < 0 → parseFieldDescriptor (TJx2cfe8 k).2.2.1 = some (tyJx2cfe8 k) := by decide +kernel
def RJx9f9b0 : String := "java/lang/CharSequence"
def TJx9f9b0 : u_T := fun k => match k with
  | _ => ("", "", "", false)
def tyJx9f9b0 : Nat → FieldType := fun k => match k with
  | _ => .int
theorem nmJx9f9b0 : ∀ a, a < 0 → ∀ b, b < 0 → a ≠ b → (TJx9f9b0 a).2.1 ≠ (TJx9f9b0 b).2.1 := by decide +kernel
theorem tyJx9f9b0_ok : ∀ k, k < 0 → parseFieldDescriptor (TJx9f9b0 k).2.2.1 = some (tyJx9f9b0 k) := by decide +kernel
def RJx8e188 : String := "java/lang/Cloneable"
def TJx8e188 : u_T := fun k => match k with
  | _ => ("", "", "", false)
def tyJx8e188 : Nat → FieldType := fun k => match k with
  | _ => .int
theorem nmJx8e188 : ∀ a, a < 0 → ∀ b, b < 0 → a ≠ b → (TJx8e188 a).2.1 ≠ (TJx8e188 b).2.1 := by decide +kernel
theorem tyJx8e188_ok : ∀ k, k < 0 → parseFieldDescriptor (TJx8e188 k).2.2.1 = some (tyJx8e188 k) := by decide +kernel
def RJxb160c : String := "java/lang/Comparable"
def TJxb160c : u_T := fun k => match k with
  | _ => ("", "", "", false)
def tyJxb160c : Nat → FieldType := fun k => match k with
  | _ => .int
theorem nmJxb160c : ∀ a, a < 0 → ∀ b, b < 0 → a ≠ b → (TJxb160c a).2.1 ≠ (TJxb160c b).2.1 := by decide +kernel
theorem tyJxb160c_ok : ∀ k, k < 0 → parseFieldDescriptor (TJxb160c k).2.2.1 = some (tyJxb160c k) := by decide +kernel
def RJ6 : String := "java/lang/Integer"
def TJ6 : u_T := fun k => match k with
  | _ => ("", "", "", false)
def tyJ6 : Nat → FieldType := fun k => match k with
  | _ => .int
theorem nmJ6 : ∀ a, a < 0 → ∀ b, b < 0 → a ≠ b → (TJ6 a).2.1 ≠ (TJ6 b).2.1 := by decide +kernel
theorem tyJ6_ok : ∀ k, k < 0 → parseFieldDescriptor (TJ6 k).2.2.1 = some (tyJ6 k) := by decide +kernel
def RJxab1ab : String := "java/lang/Iterable"
def TJxab1ab : u_T := fun k => match k with
  | _ => ("", "", "", false)
def tyJxab1ab : Nat → FieldType := fun k => match k with
  | _ => .int
theorem nmJxab1ab : ∀ a, a < 0 → ∀ b, b < 0 → a ≠ b → (TJxab1ab a).2.1 ≠ (TJxab1ab b).2.1 := by decide +kernel
theorem tyJxab1ab_ok : ∀ k, k < 0 → parseFieldDescriptor (TJxab1ab k).2.2.1 = some (tyJxab1ab k) := by decide +kernel
def RJ13 : String := "java/lang/Long"
def TJ13 : u_T := fun k => match k with
  | _ => ("", "", "", false)
def tyJ13 : Nat → FieldType := fun k => match k with
  | _ => .int
theorem nmJ13 : ∀ a, a < 0 → ∀ b, b < 0 → a ≠ b → (TJ13 a).2.1 ≠ (TJ13 b).2.1 := by decide +kernel
theorem tyJ13_ok : ∀ k, k < 0 → parseFieldDescriptor (TJ13 k).2.2.1 = some (tyJ13 k) := by decide +kernel
def RJ9 : String := "java/lang/Math"
def TJ9 : u_T := fun k => match k with
  | _ => ("", "", "", false)
def tyJ9 : Nat → FieldType := fun k => match k with
  | _ => .int
theorem nmJ9 : ∀ a, a < 0 → ∀ b, b < 0 → a ≠ b → (TJ9 a).2.1 ≠ (TJ9 b).2.1 := by decide +kernel
theorem tyJ9_ok : ∀ k, k < 0 → parseFieldDescriptor (TJ9 k).2.2.1 = some (tyJ9 k) := by decide +kernel
def RJ0 : String := "java/lang/String"
def TJ0 : u_T := fun k => match k with
  | 0 => ("java/lang/String", "value", "[B", true)
  | 1 => ("java/lang/String", "coder", "B", true)
  | 2 => ("java/lang/String", "hash", "I", false)
  | _ => ("java/lang/String", "hashIsZero", "Z", false)
def tyJ0 : Nat → FieldType := fun k => match k with
  | 0 => .array .byte
  | 1 => .byte
  | 2 => .int
  | _ => .boolean
theorem nmJ0 : ∀ a, a < 4 → ∀ b, b < 4 → a ≠ b → (TJ0 a).2.1 ≠ (TJ0 b).2.1 := by decide +kernel
theorem tyJ0_ok : ∀ k, k < 4 → parseFieldDescriptor (TJ0 k).2.2.1 = some (tyJ0 k) := by decide +kernel
def RJ4 : String := "java/lang/StringBuilder"
def TJ4 : u_T := fun k => match k with
  | 0 => ("java/lang/AbstractStringBuilder", "value", "[B", false)
  | 1 => ("java/lang/AbstractStringBuilder", "coder", "B", false)
  | 2 => ("java/lang/AbstractStringBuilder", "maybeLatin1", "Z", false)
  | _ => ("java/lang/AbstractStringBuilder", "count", "I", false)
def tyJ4 : Nat → FieldType := fun k => match k with
  | 0 => .array .byte
  | 1 => .byte
  | 2 => .boolean
  | _ => .int
theorem nmJ4 : ∀ a, a < 4 → ∀ b, b < 4 → a ≠ b → (TJ4 a).2.1 ≠ (TJ4 b).2.1 := by decide +kernel
theorem tyJ4_ok : ∀ k, k < 4 → parseFieldDescriptor (TJ4 k).2.2.1 = some (tyJ4 k) := by decide +kernel
def RJ1 : String := "java/lang/StringLatin1"
def TJ1 : u_T := fun k => match k with
  | _ => ("", "", "", false)
def tyJ1 : Nat → FieldType := fun k => match k with
  | _ => .int
theorem nmJ1 : ∀ a, a < 0 → ∀ b, b < 0 → a ≠ b → (TJ1 a).2.1 ≠ (TJ1 b).2.1 := by decide +kernel
theorem tyJ1_ok : ∀ k, k < 0 → parseFieldDescriptor (TJ1 k).2.2.1 = some (tyJ1 k) := by decide +kernel
def RJ2 : String := "java/lang/StringUTF16"
def TJ2 : u_T := fun k => match k with
  | _ => ("", "", "", false)
def tyJ2 : Nat → FieldType := fun k => match k with
  | _ => .int
theorem nmJ2 : ∀ a, a < 0 → ∀ b, b < 0 → a ≠ b → (TJ2 a).2.1 ≠ (TJ2 b).2.1 := by decide +kernel
theorem tyJ2_ok : ∀ k, k < 0 → parseFieldDescriptor (TJ2 k).2.2.1 = some (tyJ2 k) := by decide +kernel
def RJ10 : String := "java/lang/System"
def TJ10 : u_T := fun k => match k with
  | _ => ("", "", "", false)
def tyJ10 : Nat → FieldType := fun k => match k with
  | _ => .int
theorem nmJ10 : ∀ a, a < 0 → ∀ b, b < 0 → a ≠ b → (TJ10 a).2.1 ≠ (TJ10 b).2.1 := by decide +kernel
theorem tyJ10_ok : ∀ k, k < 0 → parseFieldDescriptor (TJ10 k).2.2.1 = some (tyJ10 k) := by decide +kernel
def RJxfd54e : String := "java/lang/constant/Constable"
def TJxfd54e : u_T := fun k => match k with
  | _ => ("", "", "", false)
def tyJxfd54e : Nat → FieldType := fun k => match k with
  | _ => .int
theorem nmJxfd54e : ∀ a, a < 0 → ∀ b, b < 0 → a ≠ b → (TJxfd54e a).2.1 ≠ (TJxfd54e b).2.1 := by decide +kernel
theorem tyJxfd54e_ok : ∀ k, k < 0 → parseFieldDescriptor (TJxfd54e k).2.2.1 = some (tyJxfd54e k) := by decide +kernel
def RJx3cf43 : String := "java/lang/constant/ConstantDesc"
def TJx3cf43 : u_T := fun k => match k with
  | _ => ("", "", "", false)
def tyJx3cf43 : Nat → FieldType := fun k => match k with
  | _ => .int
theorem nmJx3cf43 : ∀ a, a < 0 → ∀ b, b < 0 → a ≠ b → (TJx3cf43 a).2.1 ≠ (TJx3cf43 b).2.1 := by decide +kernel
theorem tyJx3cf43_ok : ∀ k, k < 0 → parseFieldDescriptor (TJx3cf43 k).2.2.1 = some (tyJx3cf43 k) := by decide +kernel
def RJxa1e45 : String := "java/util/AbstractCollection"
def TJxa1e45 : u_T := fun k => match k with
  | _ => ("", "", "", false)
def tyJxa1e45 : Nat → FieldType := fun k => match k with
  | _ => .int
theorem nmJxa1e45 : ∀ a, a < 0 → ∀ b, b < 0 → a ≠ b → (TJxa1e45 a).2.1 ≠ (TJxa1e45 b).2.1 := by decide +kernel
theorem tyJxa1e45_ok : ∀ k, k < 0 → parseFieldDescriptor (TJxa1e45 k).2.2.1 = some (tyJxa1e45 k) := by decide +kernel
def RJxc12de : String := "java/util/AbstractList"
def TJxc12de : u_T := fun k => match k with
  | _ => ("", "", "", false)
def tyJxc12de : Nat → FieldType := fun k => match k with
  | _ => .int
theorem nmJxc12de : ∀ a, a < 0 → ∀ b, b < 0 → a ≠ b → (TJxc12de a).2.1 ≠ (TJxc12de b).2.1 := by decide +kernel
theorem tyJxc12de_ok : ∀ k, k < 0 → parseFieldDescriptor (TJxc12de k).2.2.1 = some (tyJxc12de k) := by decide +kernel
def RJx4a65c : String := "java/util/ArrayList"
def TJx4a65c : u_T := fun k => match k with
  | 0 => ("java/util/AbstractList", "modCount", "I", false)
  | 1 => ("java/util/ArrayList", "elementData", "[Ljava/lang/Object;", false)
  | _ => ("java/util/ArrayList", "size", "I", false)
def tyJx4a65c : Nat → FieldType := fun k => match k with
  | 0 => .int
  | 1 => .array (.object "java/lang/Object")
  | _ => .int
theorem nmJx4a65c : ∀ a, a < 3 → ∀ b, b < 3 → a ≠ b → (TJx4a65c a).2.1 ≠ (TJx4a65c b).2.1 := by decide +kernel
theorem tyJx4a65c_ok : ∀ k, k < 3 → parseFieldDescriptor (TJx4a65c k).2.2.1 = some (tyJx4a65c k) := by decide +kernel
def RJ7 : String := "java/util/Arrays"
def TJ7 : u_T := fun k => match k with
  | _ => ("", "", "", false)
def tyJ7 : Nat → FieldType := fun k => match k with
  | _ => .int
theorem nmJ7 : ∀ a, a < 0 → ∀ b, b < 0 → a ≠ b → (TJ7 a).2.1 ≠ (TJ7 b).2.1 := by decide +kernel
theorem tyJ7_ok : ∀ k, k < 0 → parseFieldDescriptor (TJ7 k).2.2.1 = some (tyJ7 k) := by decide +kernel
def RJx5ef63 : String := "java/util/Collection"
def TJx5ef63 : u_T := fun k => match k with
  | _ => ("", "", "", false)
def tyJx5ef63 : Nat → FieldType := fun k => match k with
  | _ => .int
theorem nmJx5ef63 : ∀ a, a < 0 → ∀ b, b < 0 → a ≠ b → (TJx5ef63 a).2.1 ≠ (TJx5ef63 b).2.1 := by decide +kernel
theorem tyJx5ef63_ok : ∀ k, k < 0 → parseFieldDescriptor (TJx5ef63 k).2.2.1 = some (tyJx5ef63 k) := by decide +kernel
def RJxbd725 : String := "java/util/List"
def TJxbd725 : u_T := fun k => match k with
  | _ => ("", "", "", false)
def tyJxbd725 : Nat → FieldType := fun k => match k with
  | _ => .int
theorem nmJxbd725 : ∀ a, a < 0 → ∀ b, b < 0 → a ≠ b → (TJxbd725 a).2.1 ≠ (TJxbd725 b).2.1 := by decide +kernel
theorem tyJxbd725_ok : ∀ k, k < 0 → parseFieldDescriptor (TJxbd725 k).2.2.1 = some (tyJxbd725 k) := by decide +kernel
def RJ15 : String := "java/util/Objects"
def TJ15 : u_T := fun k => match k with
  | _ => ("", "", "", false)
def tyJ15 : Nat → FieldType := fun k => match k with
  | _ => .int
theorem nmJ15 : ∀ a, a < 0 → ∀ b, b < 0 → a ≠ b → (TJ15 a).2.1 ≠ (TJ15 b).2.1 := by decide +kernel
theorem tyJ15_ok : ∀ k, k < 0 → parseFieldDescriptor (TJ15 k).2.2.1 = some (tyJ15 k) := by decide +kernel
def RJxf0a74 : String := "java/util/RandomAccess"
def TJxf0a74 : u_T := fun k => match k with
  | _ => ("", "", "", false)
def tyJxf0a74 : Nat → FieldType := fun k => match k with
  | _ => .int
theorem nmJxf0a74 : ∀ a, a < 0 → ∀ b, b < 0 → a ≠ b → (TJxf0a74 a).2.1 ≠ (TJxf0a74 b).2.1 := by decide +kernel
theorem tyJxf0a74_ok : ∀ k, k < 0 → parseFieldDescriptor (TJxf0a74 k).2.2.1 = some (tyJxf0a74 k) := by decide +kernel
def RJxa66e6 : String := "java/util/SequencedCollection"
def TJxa66e6 : u_T := fun k => match k with
  | _ => ("", "", "", false)
def tyJxa66e6 : Nat → FieldType := fun k => match k with
  | _ => .int
theorem nmJxa66e6 : ∀ a, a < 0 → ∀ b, b < 0 → a ≠ b → (TJxa66e6 a).2.1 ≠ (TJxa66e6 b).2.1 := by decide +kernel
theorem tyJxa66e6_ok : ∀ k, k < 0 → parseFieldDescriptor (TJxa66e6 k).2.2.1 = some (tyJxa66e6 k) := by decide +kernel
def RJ8 : String := "jdk/internal/util/ArraysSupport"
def TJ8 : u_T := fun k => match k with
  | _ => ("", "", "", false)
def tyJ8 : Nat → FieldType := fun k => match k with
  | _ => .int
theorem nmJ8 : ∀ a, a < 0 → ∀ b, b < 0 → a ≠ b → (TJ8 a).2.1 ≠ (TJ8 b).2.1 := by decide +kernel
theorem tyJ8_ok : ∀ k, k < 0 → parseFieldDescriptor (TJ8 k).2.2.1 = some (tyJ8 k) := by decide +kernel
def RJ3 : String := "jdk/internal/util/Preconditions"
def TJ3 : u_T := fun k => match k with
  | _ => ("", "", "", false)
def tyJ3 : Nat → FieldType := fun k => match k with
  | _ => .int
theorem nmJ3 : ∀ a, a < 0 → ∀ b, b < 0 → a ≠ b → (TJ3 a).2.1 ≠ (TJ3 b).2.1 := by decide +kernel
theorem tyJ3_ok : ∀ k, k < 0 → parseFieldDescriptor (TJ3 k).2.2.1 = some (tyJ3 k) := by decide +kernel
def RL : String := "GoalHouseLaw"
def wsX2_init : List Cond := .code yX2_init cX2_init 3 none :: ([.methodLink RX2 1 objectInit, .instanceMethod objectInit, .code objectInit ⟨#[0xb1]⟩ 1 none, .fieldLink RX2 7 "GoalHouse$Frame" "node" "LGoalHouse$Node;", .fieldLink RX2 13 "GoalHouse$Frame" "up" "LGoalHouse$Frame;", .fieldLink RX2 17 "GoalHouse$Frame" "call" "LGoalHouse$Call;", .fieldLink RX2 21 "GoalHouse$Frame" "scan" "LGoalHouse$Scan;"] ++ wsX20)
def wsX8_turnTo : List Cond := .code yX8_turnTo cX8_turnTo 3 none :: ([.fieldLink RX8 104 "GoalHouse$Run" "mode" "I", .fieldLink RX8 107 "GoalHouse$Run" "cur" "LGoalHouse$Frame;"] ++ wsX80)
def wsX8_inner : List Cond := .code yX8_inner cX8_inner 5 (some (.object "GoalHouse$Frame")) :: ([.classLink RX8 164 RX2, .instantiable RX2 15, .initialized RX2, .fieldLink RX8 227 "GoalHouse$Frame" "inner" "LGoalHouse$Frame;", .fieldLink RX8 226 "GoalHouse$Frame" "state" "I", .methodLink RX8 166 yX2_init, .instanceMethod yX2_init, .code yX2_init cX2_init 3 none, .methodLink RX2 1 objectInit, .instanceMethod objectInit, .code objectInit ⟨#[0xb1]⟩ 1 none, .fieldLink RX2 7 "GoalHouse$Frame" "node" "LGoalHouse$Node;", .fieldLink RX2 13 "GoalHouse$Frame" "up" "LGoalHouse$Frame;", .fieldLink RX2 17 "GoalHouse$Frame" "call" "LGoalHouse$Call;", .fieldLink RX2 21 "GoalHouse$Frame" "scan" "LGoalHouse$Scan;", .methodLink RX8 547 yX8_turnTo, .instanceMethod yX8_turnTo, .selects RX8 yX8_turnTo yX8_turnTo, .initialized RX8, .code yX8_turnTo cX8_turnTo 3 none, .fieldLink RX8 104 "GoalHouse$Run" "mode" "I", .fieldLink RX8 107 "GoalHouse$Run" "cur" "LGoalHouse$Frame;"] ++ wsX20 ++ wsX80)
def wsX8_noMore : List Cond := .code yX8_noMore cX8_noMore 2 none :: ([.fieldLink RX8 227 "GoalHouse$Frame" "inner" "LGoalHouse$Frame;", .fieldLink RX8 226 "GoalHouse$Frame" "state" "I", .fieldLink RX8 551 "GoalHouse$Frame" "last" "LGoalHouse$Frame;", .fieldLink RX8 104 "GoalHouse$Run" "mode" "I", .fieldLink RX8 107 "GoalHouse$Run" "cur" "LGoalHouse$Frame;"] ++ wsX20 ++ wsX80)
def wsX8_tally : List Cond := .code yX8_tally cX8_tally 4 none :: ([.fieldLink RX8 271 "GoalHouse$Frame" "node" "LGoalHouse$Node;", .fieldLink RX8 274 "GoalHouse$Node" "id" "I", .fieldLink RX8 22 "GoalHouse$Run" "counts" "[I"] ++ wsX20 ++ wsX40 ++ wsX80)
def wsX8_give : List Cond := .code yX8_give cX8_give 3 none :: ([.fieldLink RX8 544 "GoalHouse$Frame" "res" "LGoalHouse$Val;", .methodLink RX8 547 yX8_turnTo, .instanceMethod yX8_turnTo, .selects RX8 yX8_turnTo yX8_turnTo, .initialized RX8, .code yX8_turnTo cX8_turnTo 3 none, .fieldLink RX8 104 "GoalHouse$Run" "mode" "I", .fieldLink RX8 107 "GoalHouse$Run" "cur" "LGoalHouse$Frame;"] ++ wsX20 ++ wsX80)
def wsX8_operand : List Cond := .code yX8_operand cX8_operand 4 none :: ([.classLink RX8 164 RX2, .instantiable RX2 15, .initialized RX2, .fieldLink RX8 551 "GoalHouse$Frame" "last" "LGoalHouse$Frame;", .fieldLink RX8 576 "GoalHouse$Frame" "prev" "LGoalHouse$Frame;", .methodLink RX8 166 yX2_init, .instanceMethod yX2_init, .code yX2_init cX2_init 3 none, .methodLink RX2 1 objectInit, .instanceMethod objectInit, .code objectInit ⟨#[0xb1]⟩ 1 none, .fieldLink RX2 7 "GoalHouse$Frame" "node" "LGoalHouse$Node;", .fieldLink RX2 13 "GoalHouse$Frame" "up" "LGoalHouse$Frame;", .fieldLink RX2 17 "GoalHouse$Frame" "call" "LGoalHouse$Call;", .fieldLink RX2 21 "GoalHouse$Frame" "scan" "LGoalHouse$Scan;", .methodLink RX8 547 yX8_turnTo, .instanceMethod yX8_turnTo, .selects RX8 yX8_turnTo yX8_turnTo, .initialized RX8, .code yX8_turnTo cX8_turnTo 3 none, .fieldLink RX8 104 "GoalHouse$Run" "mode" "I", .fieldLink RX8 107 "GoalHouse$Run" "cur" "LGoalHouse$Frame;"] ++ wsX20 ++ wsX80)
def wsX8_operands_r1 : List Cond := [Cond.constant RX8 215 (1000000), Cond.fieldLink RX8 579 "GoalHouse$Node" "kind" "I", Cond.fieldLink RX8 580 "GoalHouse$Node" "next" "LGoalHouse$Node;", Cond.methodLink RX8 547 yX8_turnTo, Cond.instanceMethod yX8_turnTo, Cond.selects RX8 yX8_turnTo yX8_turnTo, Cond.initialized RX8, Cond.code yX8_turnTo cX8_turnTo 3 none, Cond.fieldLink RX8 104 "GoalHouse$Run" "mode" "I", Cond.fieldLink RX8 107 "GoalHouse$Run" "cur" "LGoalHouse$Frame;", Cond.methodLink RX8 583 yX8_operand, Cond.instanceMethod yX8_operand, Cond.selects RX8 yX8_operand yX8_operand, Cond.code yX8_operand cX8_operand 4 none, Cond.classLink RX8 164 RX2, Cond.instantiable RX2 15, Cond.initialized RX2, Cond.fieldLink RX8 551 "GoalHouse$Frame" "last" "LGoalHouse$Frame;", Cond.fieldLink RX8 576 "GoalHouse$Frame" "prev" "LGoalHouse$Frame;", Cond.methodLink RX8 166 yX2_init, Cond.instanceMethod yX2_init, Cond.code yX2_init cX2_init 3 none, Cond.methodLink RX2 1 objectInit, Cond.instanceMethod objectInit]
def wsX8_operands_r2 : List Cond := [Cond.code objectInit ⟨#[0xb1]⟩ 1 none, Cond.fieldLink RX2 7 "GoalHouse$Frame" "node" "LGoalHouse$Node;", Cond.fieldLink RX2 13 "GoalHouse$Frame" "up" "LGoalHouse$Frame;", Cond.fieldLink RX2 17 "GoalHouse$Frame" "call" "LGoalHouse$Call;", Cond.fieldLink RX2 21 "GoalHouse$Frame" "scan" "LGoalHouse$Scan;"]
def wsX8_operands : List Cond := .code yX8_operands cX8_operands 5 none :: ((wsX8_operands_r1 ++ wsX8_operands_r2) ++ wsX40 ++ wsX80 ++ wsX20)
def wsX8_begin_r1 : List Cond := [Cond.fieldLink RX8 271 "GoalHouse$Frame" "node" "LGoalHouse$Node;", Cond.fieldLink RX8 226 "GoalHouse$Frame" "state" "I", Cond.fieldLink RX8 579 "GoalHouse$Node" "kind" "I", Cond.fieldLink RX8 593 "GoalHouse$Node" "lit" "LGoalHouse$Val;", Cond.fieldLink RX8 529 "GoalHouse$Node" "op" "I", Cond.fieldLink RX8 45 "GoalHouse$Run" "kit" "LGoalHouse$Kit;", Cond.fieldLink RX8 84 "GoalHouse$Kit" "nul" "LGoalHouse$Val;", Cond.fieldLink RX8 602 "GoalHouse$Node" "kid" "LGoalHouse$Node;", Cond.methodLink RX8 586 yX8_cellOf, Cond.instanceMethod yX8_cellOf, Cond.selects RX8 yX8_cellOf yX8_cellOf, Cond.initialized RX8, Cond.code yX8_cellOf cX8_cellOf 4 (some (.object "GoalHouse$Val")), Cond.fieldLink RX8 614 "GoalHouse$Node" "scope" "I", Cond.fieldLink RX8 27 "GoalHouse$Run" "globals" "[LGoalHouse$Val;", Cond.fieldLink RX8 31 "GoalHouse$Run" "statics" "[LGoalHouse$Val;", Cond.fieldLink RX8 198 "GoalHouse$Frame" "call" "LGoalHouse$Call;", Cond.fieldLink RX8 617 "GoalHouse$Call" "cells" "[LGoalHouse$Val;", Cond.fieldLink RX8 619 "GoalHouse$Node" "slot" "I", Cond.methodLink RX8 590 yX8_give, Cond.instanceMethod yX8_give, Cond.selects RX8 yX8_give yX8_give, Cond.code yX8_give cX8_give 3 none, Cond.fieldLink RX8 544 "GoalHouse$Frame" "res" "LGoalHouse$Val;"]
def wsX8_begin_r2 : List Cond := [Cond.methodLink RX8 547 yX8_turnTo, Cond.instanceMethod yX8_turnTo, Cond.selects RX8 yX8_turnTo yX8_turnTo, Cond.code yX8_turnTo cX8_turnTo 3 none, Cond.fieldLink RX8 104 "GoalHouse$Run" "mode" "I", Cond.fieldLink RX8 107 "GoalHouse$Run" "cur" "LGoalHouse$Frame;", Cond.methodLink RX8 596 yX8_beginKey, Cond.instanceMethod yX8_beginKey, Cond.selects RX8 yX8_beginKey yX8_beginKey, Cond.code yX8_beginKey cX8_beginKey 3 none, Cond.fieldLink RX8 202 "GoalHouse$Frame" "scan" "LGoalHouse$Scan;", Cond.classLink RX8 25 RX11, Cond.instantiable RX11 11, Cond.initialized RX11, Cond.fieldLink RX8 87 "GoalHouse$Run" "errorNumber" "LGoalHouse$Val;", Cond.fieldLink RX8 90 "GoalHouse$Run" "errorValue" "LGoalHouse$Val;", Cond.fieldLink RX8 624 "GoalHouse$Kit" "sets" "[LGoalHouse$Val;", Cond.methodLink RX8 627 Lib.Math.min.name, Cond.static Lib.Math.min.name, Cond.initialized "java/lang/Math", Cond.code Lib.Math.min.name Lib.Math.min.code 2 (some .int), Cond.methodLink RX8 622 yX9_cellOf, Cond.instanceMethod yX9_cellOf, Cond.selects RX9 yX9_cellOf yX9_cellOf]
def wsX8_begin_r3 : List Cond := [Cond.initialized RX9, Cond.code yX9_cellOf cX9_cellOf 3 (some (.object "GoalHouse$Val")), Cond.fieldLink RX9 19 "GoalHouse$Scan" "subjectCell" "LGoalHouse$Val;", Cond.fieldLink RX9 22 "GoalHouse$Scan" "posCell" "LGoalHouse$Val;", Cond.classLink RX9 17 RX11, Cond.fieldLink RX9 28 "GoalHouse$Val" "scan" "LGoalHouse$Scan;", Cond.methodLink RX9 25 yX11_init, Cond.instanceMethod yX11_init, Cond.code yX11_init cX11_init 2 none, Cond.methodLink RX11 1 objectInit, Cond.instanceMethod objectInit, Cond.code objectInit ⟨#[0xb1]⟩ 1 none, Cond.fieldLink RX11 7 "GoalHouse$Val" "kind" "I", Cond.methodLink RX8 298 yX11_init, Cond.methodLink RX8 599 yX8_beginOperator, Cond.instanceMethod yX8_beginOperator, Cond.selects RX8 yX8_beginOperator yX8_beginOperator, Cond.code yX8_beginOperator cX8_beginOperator 3 none, Cond.fieldLink RX8 633 "GoalHouse$Frame" "i" "J", Cond.fieldLink RX8 636 "GoalHouse$Node" "kids" "I", Cond.fieldLink RX8 580 "GoalHouse$Node" "next" "LGoalHouse$Node;", Cond.methodLink RX8 639 yX8_inner, Cond.instanceMethod yX8_inner, Cond.selects RX8 yX8_inner yX8_inner]
def wsX8_begin_r4 : List Cond := [Cond.code yX8_inner cX8_inner 5 (some (.object "GoalHouse$Frame")), Cond.classLink RX8 164 RX2, Cond.instantiable RX2 15, Cond.initialized RX2, Cond.fieldLink RX8 227 "GoalHouse$Frame" "inner" "LGoalHouse$Frame;", Cond.methodLink RX8 166 yX2_init, Cond.instanceMethod yX2_init, Cond.code yX2_init cX2_init 3 none, Cond.methodLink RX2 1 objectInit, Cond.fieldLink RX2 7 "GoalHouse$Frame" "node" "LGoalHouse$Node;", Cond.fieldLink RX2 13 "GoalHouse$Frame" "up" "LGoalHouse$Frame;", Cond.fieldLink RX2 17 "GoalHouse$Frame" "call" "LGoalHouse$Call;", Cond.fieldLink RX2 21 "GoalHouse$Frame" "scan" "LGoalHouse$Scan;", Cond.methodLink RX8 611 yX8_operands, Cond.instanceMethod yX8_operands, Cond.selects RX8 yX8_operands yX8_operands, Cond.code yX8_operands cX8_operands 5 none, Cond.constant RX8 215 (1000000), Cond.methodLink RX8 583 yX8_operand, Cond.instanceMethod yX8_operand, Cond.selects RX8 yX8_operand yX8_operand, Cond.code yX8_operand cX8_operand 4 none, Cond.fieldLink RX8 551 "GoalHouse$Frame" "last" "LGoalHouse$Frame;", Cond.fieldLink RX8 576 "GoalHouse$Frame" "prev" "LGoalHouse$Frame;"]
def wsX8_begin_r5 : List Cond := [Cond.methodLink RX8 605 yX8_inSequence, Cond.instanceMethod yX8_inSequence, Cond.selects RX8 yX8_inSequence yX8_inSequence, Cond.code yX8_inSequence cX8_inSequence 3 none, Cond.methodLink RX8 608 yX8_beginWord, Cond.instanceMethod yX8_beginWord, Cond.selects RX8 yX8_beginWord yX8_beginWord, Cond.code yX8_beginWord cX8_beginWord 3 none]
def wsX8_begin : List Cond := .code yX8_begin cX8_begin 3 none :: ((wsX8_begin_r1 ++ (wsX8_begin_r2 ++ (wsX8_begin_r3 ++ (wsX8_begin_r4 ++ wsX8_begin_r5)))) ++ wsX20 ++ wsX40 ++ wsX80 ++ wsX30 ++ wsX10 ++ wsX110 ++ wsX90)
def wsX8_gave_r1 : List Cond := [Cond.fieldLink RX8 226 "GoalHouse$Frame" "state" "I", Cond.fieldLink RX8 544 "GoalHouse$Frame" "res" "LGoalHouse$Val;", Cond.fieldLink RX8 271 "GoalHouse$Frame" "node" "LGoalHouse$Node;", Cond.fieldLink RX8 580 "GoalHouse$Node" "next" "LGoalHouse$Node;", Cond.fieldLink RX8 633 "GoalHouse$Frame" "i" "J", Cond.fieldLink RX8 227 "GoalHouse$Frame" "inner" "LGoalHouse$Frame;", Cond.fieldLink RX8 579 "GoalHouse$Node" "kind" "I", Cond.fieldLink RX8 529 "GoalHouse$Node" "op" "I", Cond.methodLink RX8 547 yX8_turnTo, Cond.instanceMethod yX8_turnTo, Cond.selects RX8 yX8_turnTo yX8_turnTo, Cond.initialized RX8, Cond.code yX8_turnTo cX8_turnTo 3 none, Cond.fieldLink RX8 104 "GoalHouse$Run" "mode" "I", Cond.fieldLink RX8 107 "GoalHouse$Run" "cur" "LGoalHouse$Frame;", Cond.methodLink RX8 590 yX8_give, Cond.instanceMethod yX8_give, Cond.selects RX8 yX8_give yX8_give, Cond.code yX8_give cX8_give 3 none, Cond.methodLink RX8 656 yX8_nextStatement, Cond.instanceMethod yX8_nextStatement, Cond.selects RX8 yX8_nextStatement yX8_nextStatement, Cond.code yX8_nextStatement cX8_nextStatement 3 none, Cond.fieldLink RX8 198 "GoalHouse$Frame" "call" "LGoalHouse$Call;"]
def wsX8_gave_r2 : List Cond := [Cond.methodLink RX8 688 yX8_begunBody, Cond.instanceMethod yX8_begunBody, Cond.selects RX8 yX8_begunBody yX8_begunBody, Cond.code yX8_begunBody cX8_begunBody 3 none, Cond.fieldLink RX8 264 "GoalHouse$Call" "proc" "LGoalHouse$Proc;", Cond.fieldLink RX8 691 "GoalHouse$Proc" "body" "LGoalHouse$Node;", Cond.fieldLink RX8 602 "GoalHouse$Node" "kid" "LGoalHouse$Node;", Cond.methodLink RX8 540 yX8_callFails, Cond.instanceMethod yX8_callFails, Cond.selects RX8 yX8_callFails yX8_callFails, Cond.code yX8_callFails cX8_callFails 2 none, Cond.fieldLink RX8 694 "GoalHouse$Call" "frame" "LGoalHouse$Frame;", Cond.methodLink RX8 205 yX8_log, Cond.instanceMethod yX8_log, Cond.selects RX8 yX8_log yX8_log, Cond.code yX8_log cX8_log 4 none, Cond.fieldLink RX8 9 "GoalHouse$Run" "told" "[I", Cond.fieldLink RX8 19 "GoalHouse$Run" "events" "[I", Cond.fieldLink RX8 268 "GoalHouse$Proc" "index" "I", Cond.fieldLink RX8 239 "GoalHouse$Call" "depth" "I", Cond.methodLink RX8 212 yX8_finish, Cond.instanceMethod yX8_finish, Cond.selects RX8 yX8_finish yX8_finish, Cond.code yX8_finish cX8_finish 1 none]
def wsX8_gave_r3 : List Cond := [Cond.methodLink RX8 554 yX8_noMore, Cond.instanceMethod yX8_noMore, Cond.selects RX8 yX8_noMore yX8_noMore, Cond.code yX8_noMore cX8_noMore 2 none, Cond.fieldLink RX8 551 "GoalHouse$Frame" "last" "LGoalHouse$Frame;", Cond.methodLink RX8 639 yX8_inner, Cond.instanceMethod yX8_inner, Cond.selects RX8 yX8_inner yX8_inner, Cond.code yX8_inner cX8_inner 5 (some (.object "GoalHouse$Frame")), Cond.classLink RX8 164 RX2, Cond.instantiable RX2 15, Cond.initialized RX2, Cond.methodLink RX8 166 yX2_init, Cond.instanceMethod yX2_init, Cond.code yX2_init cX2_init 3 none, Cond.methodLink RX2 1 objectInit, Cond.instanceMethod objectInit, Cond.code objectInit ⟨#[0xb1]⟩ 1 none, Cond.fieldLink RX2 7 "GoalHouse$Frame" "node" "LGoalHouse$Node;", Cond.fieldLink RX2 13 "GoalHouse$Frame" "up" "LGoalHouse$Frame;", Cond.fieldLink RX2 17 "GoalHouse$Frame" "call" "LGoalHouse$Call;", Cond.fieldLink RX2 21 "GoalHouse$Frame" "scan" "LGoalHouse$Scan;", Cond.methodLink RX8 605 yX8_inSequence, Cond.instanceMethod yX8_inSequence]
def wsX8_gave_r4 : List Cond := [Cond.selects RX8 yX8_inSequence yX8_inSequence, Cond.code yX8_inSequence cX8_inSequence 3 none, Cond.methodLink RX8 659 yX8_conditionGave, Cond.instanceMethod yX8_conditionGave, Cond.selects RX8 yX8_conditionGave yX8_conditionGave, Cond.code yX8_conditionGave cX8_conditionGave 4 none, Cond.methodLink RX8 645 yX8_goOnLoop, Cond.instanceMethod yX8_goOnLoop, Cond.selects RX8 yX8_goOnLoop yX8_goOnLoop, Cond.code yX8_goOnLoop cX8_goOnLoop 2 none, Cond.methodLink RX8 648 yX8_again, Cond.instanceMethod yX8_again, Cond.selects RX8 yX8_again yX8_again, Cond.code yX8_again cX8_again 2 none, Cond.methodLink RX8 662 yX8_bodyDone, Cond.instanceMethod yX8_bodyDone, Cond.selects RX8 yX8_bodyDone yX8_bodyDone, Cond.code yX8_bodyDone cX8_bodyDone 2 none, Cond.methodLink RX8 611 yX8_operands, Cond.instanceMethod yX8_operands, Cond.selects RX8 yX8_operands yX8_operands, Cond.code yX8_operands cX8_operands 5 none, Cond.constant RX8 215 (1000000), Cond.methodLink RX8 583 yX8_operand]
def wsX8_gave_r5 : List Cond := [Cond.instanceMethod yX8_operand, Cond.selects RX8 yX8_operand yX8_operand, Cond.code yX8_operand cX8_operand 4 none, Cond.fieldLink RX8 576 "GoalHouse$Frame" "prev" "LGoalHouse$Frame;"]
def wsX8_gave : List Cond := .code yX8_gave cX8_gave 5 none :: ((wsX8_gave_r1 ++ (wsX8_gave_r2 ++ (wsX8_gave_r3 ++ (wsX8_gave_r4 ++ wsX8_gave_r5)))) ++ wsX20 ++ wsX40 ++ wsX80 ++ wsX10 ++ wsX50)
def wsX8_failed_r1 : List Cond := [Cond.fieldLink RX8 226 "GoalHouse$Frame" "state" "I", Cond.fieldLink RX8 271 "GoalHouse$Frame" "node" "LGoalHouse$Node;", Cond.fieldLink RX8 579 "GoalHouse$Node" "kind" "I", Cond.fieldLink RX8 580 "GoalHouse$Node" "next" "LGoalHouse$Node;", Cond.fieldLink RX8 227 "GoalHouse$Frame" "inner" "LGoalHouse$Frame;", Cond.fieldLink RX8 45 "GoalHouse$Run" "kit" "LGoalHouse$Kit;", Cond.fieldLink RX8 84 "GoalHouse$Kit" "nul" "LGoalHouse$Val;", Cond.fieldLink RX8 633 "GoalHouse$Frame" "i" "J", Cond.fieldLink RX8 576 "GoalHouse$Frame" "prev" "LGoalHouse$Frame;", Cond.fieldLink RX8 551 "GoalHouse$Frame" "last" "LGoalHouse$Frame;", Cond.methodLink RX8 547 yX8_turnTo, Cond.instanceMethod yX8_turnTo, Cond.selects RX8 yX8_turnTo yX8_turnTo, Cond.initialized RX8, Cond.code yX8_turnTo cX8_turnTo 3 none, Cond.fieldLink RX8 104 "GoalHouse$Run" "mode" "I", Cond.fieldLink RX8 107 "GoalHouse$Run" "cur" "LGoalHouse$Frame;", Cond.methodLink RX8 639 yX8_inner, Cond.instanceMethod yX8_inner, Cond.selects RX8 yX8_inner yX8_inner, Cond.code yX8_inner cX8_inner 5 (some (.object "GoalHouse$Frame")), Cond.classLink RX8 164 RX2, Cond.instantiable RX2 15, Cond.initialized RX2]
def wsX8_failed_r2 : List Cond := [Cond.methodLink RX8 166 yX2_init, Cond.instanceMethod yX2_init, Cond.code yX2_init cX2_init 3 none, Cond.methodLink RX2 1 objectInit, Cond.instanceMethod objectInit, Cond.code objectInit ⟨#[0xb1]⟩ 1 none, Cond.fieldLink RX2 7 "GoalHouse$Frame" "node" "LGoalHouse$Node;", Cond.fieldLink RX2 13 "GoalHouse$Frame" "up" "LGoalHouse$Frame;", Cond.fieldLink RX2 17 "GoalHouse$Frame" "call" "LGoalHouse$Call;", Cond.fieldLink RX2 21 "GoalHouse$Frame" "scan" "LGoalHouse$Scan;", Cond.methodLink RX8 656 yX8_nextStatement, Cond.instanceMethod yX8_nextStatement, Cond.selects RX8 yX8_nextStatement yX8_nextStatement, Cond.code yX8_nextStatement cX8_nextStatement 3 none, Cond.fieldLink RX8 198 "GoalHouse$Frame" "call" "LGoalHouse$Call;", Cond.methodLink RX8 688 yX8_begunBody, Cond.instanceMethod yX8_begunBody, Cond.selects RX8 yX8_begunBody yX8_begunBody, Cond.code yX8_begunBody cX8_begunBody 3 none, Cond.fieldLink RX8 264 "GoalHouse$Call" "proc" "LGoalHouse$Proc;", Cond.fieldLink RX8 691 "GoalHouse$Proc" "body" "LGoalHouse$Node;", Cond.fieldLink RX8 602 "GoalHouse$Node" "kid" "LGoalHouse$Node;", Cond.methodLink RX8 540 yX8_callFails, Cond.instanceMethod yX8_callFails]
def wsX8_failed_r3 : List Cond := [Cond.selects RX8 yX8_callFails yX8_callFails, Cond.code yX8_callFails cX8_callFails 2 none, Cond.fieldLink RX8 694 "GoalHouse$Call" "frame" "LGoalHouse$Frame;", Cond.methodLink RX8 205 yX8_log, Cond.instanceMethod yX8_log, Cond.selects RX8 yX8_log yX8_log, Cond.code yX8_log cX8_log 4 none, Cond.fieldLink RX8 9 "GoalHouse$Run" "told" "[I", Cond.fieldLink RX8 19 "GoalHouse$Run" "events" "[I", Cond.fieldLink RX8 268 "GoalHouse$Proc" "index" "I", Cond.fieldLink RX8 239 "GoalHouse$Call" "depth" "I", Cond.methodLink RX8 212 yX8_finish, Cond.instanceMethod yX8_finish, Cond.selects RX8 yX8_finish yX8_finish, Cond.code yX8_finish cX8_finish 1 none, Cond.methodLink RX8 554 yX8_noMore, Cond.instanceMethod yX8_noMore, Cond.selects RX8 yX8_noMore yX8_noMore, Cond.code yX8_noMore cX8_noMore 2 none, Cond.methodLink RX8 605 yX8_inSequence, Cond.instanceMethod yX8_inSequence, Cond.selects RX8 yX8_inSequence yX8_inSequence, Cond.code yX8_inSequence cX8_inSequence 3 none, Cond.methodLink RX8 590 yX8_give]
def wsX8_failed_r4 : List Cond := [Cond.instanceMethod yX8_give, Cond.selects RX8 yX8_give yX8_give, Cond.code yX8_give cX8_give 3 none, Cond.fieldLink RX8 544 "GoalHouse$Frame" "res" "LGoalHouse$Val;", Cond.methodLink RX8 665 yX8_conditionFailed, Cond.instanceMethod yX8_conditionFailed, Cond.selects RX8 yX8_conditionFailed yX8_conditionFailed, Cond.code yX8_conditionFailed cX8_conditionFailed 4 none, Cond.fieldLink RX8 529 "GoalHouse$Node" "op" "I", Cond.methodLink RX8 645 yX8_goOnLoop, Cond.instanceMethod yX8_goOnLoop, Cond.selects RX8 yX8_goOnLoop yX8_goOnLoop, Cond.code yX8_goOnLoop cX8_goOnLoop 2 none, Cond.methodLink RX8 648 yX8_again, Cond.instanceMethod yX8_again, Cond.selects RX8 yX8_again yX8_again, Cond.code yX8_again cX8_again 2 none, Cond.methodLink RX8 678 yX8_nextClause, Cond.instanceMethod yX8_nextClause, Cond.selects RX8 yX8_nextClause yX8_nextClause, Cond.code yX8_nextClause cX8_nextClause 5 none, Cond.constant RX8 215 (1000000), Cond.methodLink RX8 662 yX8_bodyDone, Cond.instanceMethod yX8_bodyDone]
def wsX8_failed_r5 : List Cond := [Cond.selects RX8 yX8_bodyDone yX8_bodyDone, Cond.code yX8_bodyDone cX8_bodyDone 2 none, Cond.methodLink RX8 668 yX8_partFailed, Cond.instanceMethod yX8_partFailed, Cond.selects RX8 yX8_partFailed yX8_partFailed, Cond.code yX8_partFailed cX8_partFailed 3 none, Cond.fieldLink RX8 93 "GoalHouse$Run" "active" "LGoalHouse$Thing;", Cond.fieldLink RX8 216 "GoalHouse$Thing" "state" "I", Cond.fieldLink RX8 219 "GoalHouse$Thing" "prior" "LGoalHouse$Thing;", Cond.fieldLink RX8 707 "GoalHouse$Thing" "waiter" "LGoalHouse$Frame;", Cond.methodLink RX8 573 yX8_goalEnds, Cond.instanceMethod yX8_goalEnds, Cond.selects RX8 yX8_goalEnds yX8_goalEnds, Cond.code yX8_goalEnds cX8_goalEnds 2 none]
def wsX8_failed : List Cond := .code yX8_failed cX8_failed 3 none :: ((wsX8_failed_r1 ++ (wsX8_failed_r2 ++ (wsX8_failed_r3 ++ (wsX8_failed_r4 ++ wsX8_failed_r5)))) ++ wsX20 ++ wsX40 ++ wsX80 ++ wsX30 ++ wsX10 ++ wsX50 ++ wsX100)
def wsX8_control_r1 : List Cond := [Cond.fieldLink RX8 104 "GoalHouse$Run" "mode" "I", Cond.fieldLink RX8 45 "GoalHouse$Run" "kit" "LGoalHouse$Kit;", Cond.fieldLink RX8 493 "GoalHouse$Kit" "steps" "I", Cond.fieldLink RX8 9 "GoalHouse$Run" "told" "[I", Cond.fieldLink RX8 505 "GoalHouse$Frame" "up" "LGoalHouse$Frame;", Cond.fieldLink RX8 271 "GoalHouse$Frame" "node" "LGoalHouse$Node;", Cond.fieldLink RX8 198 "GoalHouse$Frame" "call" "LGoalHouse$Call;", Cond.methodLink RX8 496 yX8_tally, Cond.instanceMethod yX8_tally, Cond.selects RX8 yX8_tally yX8_tally, Cond.initialized RX8, Cond.code yX8_tally cX8_tally 4 none, Cond.fieldLink RX8 274 "GoalHouse$Node" "id" "I", Cond.fieldLink RX8 22 "GoalHouse$Run" "counts" "[I", Cond.methodLink RX8 499 yX8_begin, Cond.instanceMethod yX8_begin, Cond.selects RX8 yX8_begin yX8_begin, Cond.code yX8_begin cX8_begin 3 none, Cond.fieldLink RX8 226 "GoalHouse$Frame" "state" "I", Cond.fieldLink RX8 579 "GoalHouse$Node" "kind" "I", Cond.fieldLink RX8 593 "GoalHouse$Node" "lit" "LGoalHouse$Val;", Cond.fieldLink RX8 529 "GoalHouse$Node" "op" "I", Cond.fieldLink RX8 84 "GoalHouse$Kit" "nul" "LGoalHouse$Val;", Cond.fieldLink RX8 602 "GoalHouse$Node" "kid" "LGoalHouse$Node;"]
def wsX8_control_r2 : List Cond := [Cond.methodLink RX8 586 yX8_cellOf, Cond.instanceMethod yX8_cellOf, Cond.selects RX8 yX8_cellOf yX8_cellOf, Cond.code yX8_cellOf cX8_cellOf 4 (some (.object "GoalHouse$Val")), Cond.fieldLink RX8 614 "GoalHouse$Node" "scope" "I", Cond.fieldLink RX8 27 "GoalHouse$Run" "globals" "[LGoalHouse$Val;", Cond.fieldLink RX8 31 "GoalHouse$Run" "statics" "[LGoalHouse$Val;", Cond.fieldLink RX8 617 "GoalHouse$Call" "cells" "[LGoalHouse$Val;", Cond.fieldLink RX8 619 "GoalHouse$Node" "slot" "I", Cond.methodLink RX8 590 yX8_give, Cond.instanceMethod yX8_give, Cond.selects RX8 yX8_give yX8_give, Cond.code yX8_give cX8_give 3 none, Cond.fieldLink RX8 544 "GoalHouse$Frame" "res" "LGoalHouse$Val;", Cond.methodLink RX8 547 yX8_turnTo, Cond.instanceMethod yX8_turnTo, Cond.selects RX8 yX8_turnTo yX8_turnTo, Cond.code yX8_turnTo cX8_turnTo 3 none, Cond.fieldLink RX8 107 "GoalHouse$Run" "cur" "LGoalHouse$Frame;", Cond.methodLink RX8 596 yX8_beginKey, Cond.instanceMethod yX8_beginKey, Cond.selects RX8 yX8_beginKey yX8_beginKey, Cond.code yX8_beginKey cX8_beginKey 3 none, Cond.fieldLink RX8 202 "GoalHouse$Frame" "scan" "LGoalHouse$Scan;"]
def wsX8_control_r3 : List Cond := [Cond.classLink RX8 25 RX11, Cond.instantiable RX11 11, Cond.initialized RX11, Cond.fieldLink RX8 87 "GoalHouse$Run" "errorNumber" "LGoalHouse$Val;", Cond.fieldLink RX8 90 "GoalHouse$Run" "errorValue" "LGoalHouse$Val;", Cond.fieldLink RX8 624 "GoalHouse$Kit" "sets" "[LGoalHouse$Val;", Cond.methodLink RX8 627 Lib.Math.min.name, Cond.static Lib.Math.min.name, Cond.initialized "java/lang/Math", Cond.code Lib.Math.min.name Lib.Math.min.code 2 (some .int), Cond.methodLink RX8 622 yX9_cellOf, Cond.instanceMethod yX9_cellOf, Cond.selects RX9 yX9_cellOf yX9_cellOf, Cond.initialized RX9, Cond.code yX9_cellOf cX9_cellOf 3 (some (.object "GoalHouse$Val")), Cond.fieldLink RX9 19 "GoalHouse$Scan" "subjectCell" "LGoalHouse$Val;", Cond.fieldLink RX9 22 "GoalHouse$Scan" "posCell" "LGoalHouse$Val;", Cond.classLink RX9 17 RX11, Cond.fieldLink RX9 28 "GoalHouse$Val" "scan" "LGoalHouse$Scan;", Cond.methodLink RX9 25 yX11_init, Cond.instanceMethod yX11_init, Cond.code yX11_init cX11_init 2 none, Cond.methodLink RX11 1 objectInit, Cond.instanceMethod objectInit]
def wsX8_control_r4 : List Cond := [Cond.code objectInit ⟨#[0xb1]⟩ 1 none, Cond.fieldLink RX11 7 "GoalHouse$Val" "kind" "I", Cond.methodLink RX8 298 yX11_init, Cond.methodLink RX8 599 yX8_beginOperator, Cond.instanceMethod yX8_beginOperator, Cond.selects RX8 yX8_beginOperator yX8_beginOperator, Cond.code yX8_beginOperator cX8_beginOperator 3 none, Cond.fieldLink RX8 633 "GoalHouse$Frame" "i" "J", Cond.fieldLink RX8 636 "GoalHouse$Node" "kids" "I", Cond.fieldLink RX8 580 "GoalHouse$Node" "next" "LGoalHouse$Node;", Cond.methodLink RX8 639 yX8_inner, Cond.instanceMethod yX8_inner, Cond.selects RX8 yX8_inner yX8_inner, Cond.code yX8_inner cX8_inner 5 (some (.object "GoalHouse$Frame")), Cond.classLink RX8 164 RX2, Cond.instantiable RX2 15, Cond.initialized RX2, Cond.fieldLink RX8 227 "GoalHouse$Frame" "inner" "LGoalHouse$Frame;", Cond.methodLink RX8 166 yX2_init, Cond.instanceMethod yX2_init, Cond.code yX2_init cX2_init 3 none, Cond.methodLink RX2 1 objectInit, Cond.fieldLink RX2 7 "GoalHouse$Frame" "node" "LGoalHouse$Node;", Cond.fieldLink RX2 13 "GoalHouse$Frame" "up" "LGoalHouse$Frame;"]
def wsX8_control_r5 : List Cond := [Cond.fieldLink RX2 17 "GoalHouse$Frame" "call" "LGoalHouse$Call;", Cond.fieldLink RX2 21 "GoalHouse$Frame" "scan" "LGoalHouse$Scan;", Cond.methodLink RX8 611 yX8_operands, Cond.instanceMethod yX8_operands, Cond.selects RX8 yX8_operands yX8_operands, Cond.code yX8_operands cX8_operands 5 none, Cond.constant RX8 215 (1000000), Cond.methodLink RX8 583 yX8_operand, Cond.instanceMethod yX8_operand, Cond.selects RX8 yX8_operand yX8_operand, Cond.code yX8_operand cX8_operand 4 none, Cond.fieldLink RX8 551 "GoalHouse$Frame" "last" "LGoalHouse$Frame;", Cond.fieldLink RX8 576 "GoalHouse$Frame" "prev" "LGoalHouse$Frame;", Cond.methodLink RX8 605 yX8_inSequence, Cond.instanceMethod yX8_inSequence, Cond.selects RX8 yX8_inSequence yX8_inSequence, Cond.code yX8_inSequence cX8_inSequence 3 none, Cond.methodLink RX8 608 yX8_beginWord, Cond.instanceMethod yX8_beginWord, Cond.selects RX8 yX8_beginWord yX8_beginWord, Cond.code yX8_beginWord cX8_beginWord 3 none, Cond.methodLink RX8 502 yX8_resume, Cond.instanceMethod yX8_resume, Cond.selects RX8 yX8_resume yX8_resume]
def wsX8_control_r6 : List Cond := [Cond.code yX8_resume cX8_resume 2 none, Cond.fieldLink RX8 654 "GoalHouse$Frame" "more" "I", Cond.methodLink RX8 554 yX8_noMore, Cond.instanceMethod yX8_noMore, Cond.selects RX8 yX8_noMore yX8_noMore, Cond.code yX8_noMore cX8_noMore 2 none, Cond.methodLink RX8 648 yX8_again, Cond.instanceMethod yX8_again, Cond.selects RX8 yX8_again yX8_again, Cond.code yX8_again cX8_again 2 none, Cond.methodLink RX8 651 yX8_goOnCall, Cond.instanceMethod yX8_goOnCall, Cond.selects RX8 yX8_goOnCall yX8_goOnCall, Cond.code yX8_goOnCall cX8_goOnCall 4 none, Cond.methodLink RX8 205 yX8_log, Cond.instanceMethod yX8_log, Cond.selects RX8 yX8_log yX8_log, Cond.code yX8_log cX8_log 4 none, Cond.fieldLink RX8 19 "GoalHouse$Run" "events" "[I", Cond.fieldLink RX8 264 "GoalHouse$Call" "proc" "LGoalHouse$Proc;", Cond.fieldLink RX8 268 "GoalHouse$Proc" "index" "I", Cond.fieldLink RX8 239 "GoalHouse$Call" "depth" "I", Cond.methodLink RX8 508 yX8_gave, Cond.instanceMethod yX8_gave]
def wsX8_control_r7 : List Cond := [Cond.selects RX8 yX8_gave yX8_gave, Cond.code yX8_gave cX8_gave 5 none, Cond.methodLink RX8 656 yX8_nextStatement, Cond.instanceMethod yX8_nextStatement, Cond.selects RX8 yX8_nextStatement yX8_nextStatement, Cond.code yX8_nextStatement cX8_nextStatement 3 none, Cond.methodLink RX8 688 yX8_begunBody, Cond.instanceMethod yX8_begunBody, Cond.selects RX8 yX8_begunBody yX8_begunBody, Cond.code yX8_begunBody cX8_begunBody 3 none, Cond.fieldLink RX8 691 "GoalHouse$Proc" "body" "LGoalHouse$Node;", Cond.methodLink RX8 540 yX8_callFails, Cond.instanceMethod yX8_callFails, Cond.selects RX8 yX8_callFails yX8_callFails, Cond.code yX8_callFails cX8_callFails 2 none, Cond.fieldLink RX8 694 "GoalHouse$Call" "frame" "LGoalHouse$Frame;", Cond.methodLink RX8 212 yX8_finish, Cond.instanceMethod yX8_finish, Cond.selects RX8 yX8_finish yX8_finish, Cond.code yX8_finish cX8_finish 1 none, Cond.methodLink RX8 659 yX8_conditionGave, Cond.instanceMethod yX8_conditionGave, Cond.selects RX8 yX8_conditionGave yX8_conditionGave, Cond.code yX8_conditionGave cX8_conditionGave 4 none]
def wsX8_control_r8 : List Cond := [Cond.methodLink RX8 645 yX8_goOnLoop, Cond.instanceMethod yX8_goOnLoop, Cond.selects RX8 yX8_goOnLoop yX8_goOnLoop, Cond.code yX8_goOnLoop cX8_goOnLoop 2 none, Cond.methodLink RX8 662 yX8_bodyDone, Cond.instanceMethod yX8_bodyDone, Cond.selects RX8 yX8_bodyDone yX8_bodyDone, Cond.code yX8_bodyDone cX8_bodyDone 2 none, Cond.methodLink RX8 512 yX8_failed, Cond.instanceMethod yX8_failed, Cond.selects RX8 yX8_failed yX8_failed, Cond.code yX8_failed cX8_failed 3 none, Cond.methodLink RX8 665 yX8_conditionFailed, Cond.instanceMethod yX8_conditionFailed, Cond.selects RX8 yX8_conditionFailed yX8_conditionFailed, Cond.code yX8_conditionFailed cX8_conditionFailed 4 none, Cond.methodLink RX8 678 yX8_nextClause, Cond.instanceMethod yX8_nextClause, Cond.selects RX8 yX8_nextClause yX8_nextClause, Cond.code yX8_nextClause cX8_nextClause 5 none, Cond.methodLink RX8 668 yX8_partFailed, Cond.instanceMethod yX8_partFailed, Cond.selects RX8 yX8_partFailed yX8_partFailed, Cond.code yX8_partFailed cX8_partFailed 3 none]
def wsX8_control_r9 : List Cond := [Cond.fieldLink RX8 93 "GoalHouse$Run" "active" "LGoalHouse$Thing;", Cond.fieldLink RX8 216 "GoalHouse$Thing" "state" "I", Cond.fieldLink RX8 219 "GoalHouse$Thing" "prior" "LGoalHouse$Thing;", Cond.fieldLink RX8 707 "GoalHouse$Thing" "waiter" "LGoalHouse$Frame;", Cond.methodLink RX8 573 yX8_goalEnds, Cond.instanceMethod yX8_goalEnds, Cond.selects RX8 yX8_goalEnds yX8_goalEnds, Cond.code yX8_goalEnds cX8_goalEnds 2 none, Cond.methodLink RX8 515 yX8_gaveValue, Cond.instanceMethod yX8_gaveValue, Cond.selects RX8 yX8_gaveValue yX8_gaveValue, Cond.code yX8_gaveValue cX8_gaveValue 4 none, Cond.fieldLink RX8 101 "GoalHouse$Run" "result" "LGoalHouse$Val;", Cond.methodLink RX8 346 yX8_value, Cond.instanceMethod yX8_value, Cond.selects RX8 yX8_value yX8_value, Cond.code yX8_value cX8_value 5 (some (.object "GoalHouse$Val")), Cond.fieldLink RX8 312 "GoalHouse$Val" "kind" "I", Cond.fieldLink RX8 143 "GoalHouse$Val" "in" "LGoalHouse$Val;", Cond.fieldLink RX8 321 "GoalHouse$Val" "thing" "LGoalHouse$Thing;", Cond.fieldLink RX8 328 "GoalHouse$Thing" "other" "LGoalHouse$Val;", Cond.fieldLink RX8 331 "GoalHouse$Thing" "items" "[LGoalHouse$Val;", Cond.fieldLink RX8 334 "GoalHouse$Val" "scan" "LGoalHouse$Scan;", Cond.fieldLink RX8 233 "GoalHouse$Scan" "subject" "LGoalHouse$Val;"]
def wsX8_control_r10 : List Cond := [Cond.fieldLink RX8 230 "GoalHouse$Scan" "pos" "I", Cond.fieldLink RX8 236 "GoalHouse$Val" "len" "I", Cond.fieldLink RX8 303 "GoalHouse$Val" "off" "I", Cond.fieldLink RX8 300 "GoalHouse$Val" "bytes" "[B", Cond.methodLink RX8 324 yX10_find, Cond.instanceMethod yX10_find, Cond.selects RX10 yX10_find yX10_find, Cond.initialized RX10, Cond.code yX10_find cX10_find 5 (some .int), Cond.fieldLink RX10 64 "GoalHouse$Thing" "heads" "[I", Cond.constant RX10 72 (1000000), Cond.fieldLink RX10 73 "GoalHouse$Thing" "used" "I", Cond.fieldLink RX10 76 "GoalHouse$Thing" "keys" "[LGoalHouse$Val;", Cond.fieldLink RX10 83 "GoalHouse$Thing" "links" "[I", Cond.methodLink RX10 68 yX11_hash, Cond.instanceMethod yX11_hash, Cond.selects RX11 yX11_hash yX11_hash, Cond.code yX11_hash cX11_hash 7 (some .int), Cond.fieldLink RX11 16 "GoalHouse$Val" "num" "J", Cond.fieldLink RX11 62 "GoalHouse$Val" "big" "[I", Cond.fieldLink RX11 27 "GoalHouse$Val" "len" "I", Cond.fieldLink RX11 20 "GoalHouse$Val" "bytes" "[B", Cond.fieldLink RX11 24 "GoalHouse$Val" "off" "I", Cond.fieldLink RX11 34 "GoalHouse$Val" "bits" "[J"]
def wsX8_control_r11 : List Cond := [Cond.fieldLink RX11 54 "GoalHouse$Val" "proc" "LGoalHouse$Proc;", Cond.fieldLink RX11 66 "GoalHouse$Proc" "index" "I", Cond.fieldLink RX11 71 "GoalHouse$Proc" "kind" "I", Cond.fieldLink RX11 58 "GoalHouse$Val" "thing" "LGoalHouse$Thing;", Cond.fieldLink RX11 72 "GoalHouse$Thing" "number" "I", Cond.methodLink RX10 79 yX11_alike, Cond.static yX11_alike, Cond.code yX11_alike cX11_alike 2 (some .boolean), Cond.methodLink RX11 44 yX11_sameWhole, Cond.static yX11_sameWhole, Cond.code yX11_sameWhole cX11_sameWhole 3 (some .boolean), Cond.methodLink RX11 48 yX11_sameText, Cond.static yX11_sameText, Cond.code yX11_sameText cX11_sameText 4 (some .boolean), Cond.methodLink RX11 51 yX11_sameSet, Cond.static yX11_sameSet, Cond.code yX11_sameSet cX11_sameSet 3 (some .boolean), Cond.methodLink RX8 335 yX11_whole, Cond.static yX11_whole, Cond.code yX11_whole cX11_whole 3 (some (.object "GoalHouse$Val")), Cond.classLink RX11 8 RX11, Cond.methodLink RX11 13 yX11_init, Cond.methodLink RX8 279 yX3_breaks, Cond.instanceMethod yX3_breaks]
def wsX8_control_r12 : List Cond := [Cond.selects RX3 yX3_breaks yX3_breaks, Cond.initialized RX3, Cond.code yX3_breaks cX3_breaks 3 (some .int), Cond.fieldLink RX3 103 "GoalHouse$Kit" "breakNumber" "I", Cond.fieldLink RX3 86 "GoalHouse$Kit" "breakValue" "LGoalHouse$Val;", Cond.methodLink RX8 338 yX11_text, Cond.static yX11_text, Cond.code yX11_text cX11_text 4 (some (.object "GoalHouse$Val")), Cond.methodLink RX8 557 yX8_allowed, Cond.instanceMethod yX8_allowed, Cond.selects RX8 yX8_allowed yX8_allowed, Cond.code yX8_allowed cX8_allowed 4 (some .boolean), Cond.fieldLink RX8 561 "GoalHouse$Kit" "breakNumber" "I", Cond.fieldLink RX8 564 "GoalHouse$Kit" "breakValue" "LGoalHouse$Val;", Cond.fieldLink RX8 567 "GoalHouse$Node" "place" "I", Cond.methodLink RX8 570 yX8_inGoal, Cond.instanceMethod yX8_inGoal, Cond.selects RX8 yX8_inGoal yX8_inGoal, Cond.code yX8_inGoal cX8_inGoal 1 (some .boolean), Cond.methodLink RX8 209 yX8_leaveParts, Cond.instanceMethod yX8_leaveParts, Cond.selects RX8 yX8_leaveParts yX8_leaveParts, Cond.code yX8_leaveParts cX8_leaveParts 2 none, Cond.methodLink RX8 671 yX8_partGave]
def wsX8_control_r13 : List Cond := [Cond.instanceMethod yX8_partGave, Cond.selects RX8 yX8_partGave yX8_partGave, Cond.code yX8_partGave cX8_partGave 3 none, Cond.fieldLink RX8 710 "GoalHouse$Thing" "size" "I", Cond.methodLink RX8 532 yX8_doReturn, Cond.instanceMethod yX8_doReturn, Cond.selects RX8 yX8_doReturn yX8_doReturn, Cond.code yX8_doReturn cX8_doReturn 3 none, Cond.methodLink RX8 697 yX8_leaveCall, Cond.instanceMethod yX8_leaveCall, Cond.selects RX8 yX8_leaveCall yX8_leaveCall, Cond.code yX8_leaveCall cX8_leaveCall 3 none, Cond.methodLink RX8 536 yX8_doSuspend, Cond.instanceMethod yX8_doSuspend, Cond.selects RX8 yX8_doSuspend yX8_doSuspend, Cond.code yX8_doSuspend cX8_doSuspend 4 none, Cond.methodLink RX8 674 yX8_caseGave, Cond.instanceMethod yX8_caseGave, Cond.selects RX8 yX8_caseGave yX8_caseGave, Cond.code yX8_caseGave cX8_caseGave 4 none, Cond.fieldLink RX8 681 "GoalHouse$Frame" "a" "LGoalHouse$Val;", Cond.methodLink RX8 684 yX11_alike, Cond.methodLink RX8 518 yX8_leave, Cond.instanceMethod yX8_leave]
def wsX8_control_r14 : List Cond := [Cond.selects RX8 yX8_leave yX8_leave, Cond.code yX8_leave cX8_leave 2 none, Cond.methodLink RX8 521 yX8_jump, Cond.instanceMethod yX8_jump, Cond.selects RX8 yX8_jump yX8_jump, Cond.code yX8_jump cX8_jump 5 none, Cond.fieldLink RX8 642 "GoalHouse$Node" "loop" "LGoalHouse$Node;", Cond.methodLink RX8 525 yX8_enter, Cond.instanceMethod yX8_enter, Cond.selects RX8 yX8_enter yX8_enter, Cond.code yX8_enter cX8_enter 5 none, Cond.fieldLink RX8 222 "GoalHouse$Proc" "first" "LGoalHouse$Node;", Cond.fieldLink RX8 34 "GoalHouse$Run" "initiated" "[Z"]
def wsX8_control : List Cond := .code yX8_control cX8_control 2 none :: ((wsX8_control_r1 ++ (wsX8_control_r2 ++ (wsX8_control_r3 ++ (wsX8_control_r4 ++ (wsX8_control_r5 ++ (wsX8_control_r6 ++ (wsX8_control_r7 ++ (wsX8_control_r8 ++ (wsX8_control_r9 ++ (wsX8_control_r10 ++ (wsX8_control_r11 ++ (wsX8_control_r12 ++ (wsX8_control_r13 ++ wsX8_control_r14))))))))))))) ++ wsX80 ++ wsX30 ++ wsX20 ++ wsX40 ++ wsX10 ++ wsX110 ++ wsX90 ++ wsX50 ++ wsX100)
theorem dX2_init_0 : decode cX2_init 0 = .ok (.aload_n 0, 1) := by decide +kernel
theorem dX2_init_1 : decode cX2_init 1 = .ok (.invokespecial 1, 3) := by decide +kernel
theorem dX2_init_4 : decode cX2_init 4 = .ok (.aload_n 0, 1) := by decide +kernel
theorem dX2_init_5 : decode cX2_init 5 = .ok (.aload_n 1, 1) := by decide +kernel
theorem dX2_init_6 : decode cX2_init 6 = .ok (.putfield 7, 3) := by decide +kernel
theorem dX2_init_9 : decode cX2_init 9 = .ok (.aload_n 0, 1) := by decide +kernel
theorem dX2_init_10 : decode cX2_init 10 = .ok (.aload_n 2, 1) := by decide +kernel
theorem dX2_init_11 : decode cX2_init 11 = .ok (.putfield 13, 3) := by decide +kernel
theorem dX2_init_14 : decode cX2_init 14 = .ok (.aload_n 2, 1) := by decide +kernel
theorem dX2_init_15 : decode cX2_init 15 = .ok (.ifnull 19, 3) := by decide +kernel
theorem dX2_init_18 : decode cX2_init 18 = .ok (.aload_n 0, 1) := by decide +kernel
theorem dX2_init_19 : decode cX2_init 19 = .ok (.aload_n 2, 1) := by decide +kernel
theorem dX2_init_20 : decode cX2_init 20 = .ok (.getfield 17, 3) := by decide +kernel
theorem dX2_init_23 : decode cX2_init 23 = .ok (.putfield 17, 3) := by decide +kernel
theorem dX2_init_26 : decode cX2_init 26 = .ok (.aload_n 0, 1) := by decide +kernel
theorem dX2_init_27 : decode cX2_init 27 = .ok (.aload_n 2, 1) := by decide +kernel
theorem dX2_init_28 : decode cX2_init 28 = .ok (.getfield 21, 3) := by decide +kernel
theorem dX2_init_31 : decode cX2_init 31 = .ok (.putfield 21, 3) := by decide +kernel
theorem dX2_init_34 : decode cX2_init 34 = .ok (.return_, 1) := by decide +kernel
theorem dX8_tally_0 : decode cX8_tally 0 = .ok (.aload_n 1, 1) := by decide +kernel
theorem dX8_tally_1 : decode cX8_tally 1 = .ok (.getfield 271, 3) := by decide +kernel
theorem dX8_tally_4 : decode cX8_tally 4 = .ok (.ifnull 13, 3) := by decide +kernel
theorem dX8_tally_7 : decode cX8_tally 7 = .ok (.aload_n 1, 1) := by decide +kernel
theorem dX8_tally_8 : decode cX8_tally 8 = .ok (.getfield 271, 3) := by decide +kernel
theorem dX8_tally_11 : decode cX8_tally 11 = .ok (.getfield 274, 3) := by decide +kernel
theorem dX8_tally_14 : decode cX8_tally 14 = .ok (.ifCond .ge 7, 3) := by decide +kernel
theorem dX8_tally_17 : decode cX8_tally 17 = .ok (.iconst (-1), 1) := by decide +kernel
theorem dX8_tally_18 : decode cX8_tally 18 = .ok (.goto 14, 3) := by decide +kernel
theorem dX8_tally_21 : decode cX8_tally 21 = .ok (.iconst 4, 1) := by decide +kernel
theorem dX8_tally_22 : decode cX8_tally 22 = .ok (.aload_n 1, 1) := by decide +kernel
theorem dX8_tally_23 : decode cX8_tally 23 = .ok (.getfield 271, 3) := by decide +kernel
theorem dX8_tally_26 : decode cX8_tally 26 = .ok (.getfield 274, 3) := by decide +kernel
theorem dX8_tally_29 : decode cX8_tally 29 = .ok (.imul, 1) := by decide +kernel
theorem dX8_tally_30 : decode cX8_tally 30 = .ok (.iload_n 2, 1) := by decide +kernel
theorem dX8_tally_31 : decode cX8_tally 31 = .ok (.iadd, 1) := by decide +kernel
theorem dX8_tally_32 : decode cX8_tally 32 = .ok (.istore_n 3, 1) := by decide +kernel
theorem dX8_tally_33 : decode cX8_tally 33 = .ok (.iload_n 3, 1) := by decide +kernel
theorem dX8_tally_34 : decode cX8_tally 34 = .ok (.ifCond .lt 22, 3) := by decide +kernel
theorem dX8_tally_37 : decode cX8_tally 37 = .ok (.iload_n 3, 1) := by decide +kernel
theorem dX8_tally_38 : decode cX8_tally 38 = .ok (.aload_n 0, 1) := by decide +kernel
theorem dX8_tally_39 : decode cX8_tally 39 = .ok (.getfield 22, 3) := by decide +kernel
theorem dX8_tally_42 : decode cX8_tally 42 = .ok (.arraylength, 1) := by decide +kernel
theorem dX8_tally_43 : decode cX8_tally 43 = .ok (.if_icmp .ge 13, 3) := by decide +kernel
theorem dX8_tally_46 : decode cX8_tally 46 = .ok (.aload_n 0, 1) := by decide +kernel
theorem dX8_tally_47 : decode cX8_tally 47 = .ok (.getfield 22, 3) := by decide +kernel
theorem dX8_tally_50 : decode cX8_tally 50 = .ok (.iload_n 3, 1) := by decide +kernel
theorem dX8_tally_51 : decode cX8_tally 51 = .ok (.dup2, 1) := by decide +kernel
theorem dX8_tally_52 : decode cX8_tally 52 = .ok (.iaload, 1) := by decide +kernel
theorem dX8_tally_53 : decode cX8_tally 53 = .ok (.iconst 1, 1) := by decide +kernel
theorem dX8_tally_54 : decode cX8_tally 54 = .ok (.iadd, 1) := by decide +kernel
theorem dX8_tally_55 : decode cX8_tally 55 = .ok (.iastore, 1) := by decide +kernel
theorem dX8_tally_56 : decode cX8_tally 56 = .ok (.return_, 1) := by decide +kernel
set_option maxRecDepth 20000 in
theorem ggX8_control_X8_tally : GoodIn wsX8_control wsX8_tally := goodIn_r _ [12, 6, 13, 14, 368, 369, 370, 371, 372, 373, 374, 375, 376, 377, 378, 379, 380, 381, 382, 383, 384, 385, 386, 387, 388, 389, 390, 391, 392, 393, 394, 395, 396, 326, 327, 328, 329, 330, 331, 332, 333, 334, 335, 336, 337, 338, 339, 340, 341, 342, 343, 344, 345, 346] (by decide +kernel) (by decide +kernel)
set_option maxRecDepth 20000 in
theorem gX8_control_X8_tally : GoodIn wsX8_control (wsV RX8 496 RX8 yX8_tally wsX8_tally) := goodIn_app (goodIn_of _ (by decide +kernel)) ggX8_control_X8_tally
set_option maxRecDepth 20000 in
theorem ggX8_control_X8_begin : GoodIn wsX8_control wsX8_begin := goodIn_r _ [18, 6, 19, 20, 21, 22, 2, 23, 24, 25, 26, 27, 11, 28, 29, 30, 31, 7, 32, 33, 34, 35, 36, 37, 38, 39, 40, 41, 42, 1, 43, 44, 45, 46, 47, 48, 49, 50, 51, 52, 53, 54, 55, 56, 57, 58, 59, 60, 61, 62, 63, 64, 65, 66, 67, 68, 69, 70, 71, 72, 73, 74, 75, 76, 77, 78, 79, 80, 81, 82, 83, 84, 85, 86, 87, 88, 89, 90, 91, 92, 93, 94, 95, 96, 97, 98, 99, 100, 101, 102, 103, 104, 105, 106, 107, 108, 109, 110, 111, 112, 113, 114, 115, 116, 117, 368, 369, 370, 371, 372, 373, 374, 375, 376, 377, 378, 379, 380, 381, 382, 383, 384, 385, 386, 387, 388, 389, 390, 391, 392, 393, 394, 395, 396, 326, 327, 328, 329, 330, 331, 332, 333, 334, 335, 336, 337, 338, 339, 340, 341, 342, 343, 344, 345, 346, 347, 348, 349, 350, 351, 352, 353, 354, 355, 356, 357, 358, 359, 360, 361, 362, 363, 364, 365, 366, 367, 397, 398, 399, 400, 401, 402, 403, 404, 405, 406, 407, 408, 409, 410, 411, 412, 413, 414, 415] (by decide +kernel) (by decide +kernel)
set_option maxRecDepth 20000 in
theorem gX8_control_X8_begin : GoodIn wsX8_control (wsV RX8 499 RX8 yX8_begin wsX8_begin) := goodIn_app (goodIn_of _ (by decide +kernel)) ggX8_control_X8_begin
theorem dX8_control_0 : decode cX8_control 0 = .ok (.aload_n 0, 1) := by decide +kernel
theorem dX8_control_1 : decode cX8_control 1 = .ok (.getfield 104, 3) := by decide +kernel
theorem dX8_control_4 : decode cX8_control 4 = .ok (.tableswitch 177 1 7 #[44, 44, 109, 127, 145, 157, 165], 44) := by decide +kernel
theorem dX8_control_48 : decode cX8_control 48 = .ok (.aload_n 0, 1) := by decide +kernel
theorem dX8_control_49 : decode cX8_control 49 = .ok (.getfield 45, 3) := by decide +kernel
theorem dX8_control_52 : decode cX8_control 52 = .ok (.dup, 1) := by decide +kernel
theorem dX8_control_53 : decode cX8_control 53 = .ok (.getfield 493, 3) := by decide +kernel
theorem dX8_control_56 : decode cX8_control 56 = .ok (.iconst 1, 1) := by decide +kernel
theorem dX8_control_57 : decode cX8_control 57 = .ok (.iadd, 1) := by decide +kernel
theorem dX8_control_58 : decode cX8_control 58 = .ok (.putfield 493, 3) := by decide +kernel
theorem dX8_control_61 : decode cX8_control 61 = .ok (.aload_n 0, 1) := by decide +kernel
theorem dX8_control_62 : decode cX8_control 62 = .ok (.getfield 9, 3) := by decide +kernel
theorem dX8_control_65 : decode cX8_control 65 = .ok (.iconst 1, 1) := by decide +kernel
theorem dX8_control_66 : decode cX8_control 66 = .ok (.dup2, 1) := by decide +kernel
theorem dX8_control_67 : decode cX8_control 67 = .ok (.iaload, 1) := by decide +kernel
theorem dX8_control_68 : decode cX8_control 68 = .ok (.iconst 1, 1) := by decide +kernel
theorem dX8_control_69 : decode cX8_control 69 = .ok (.iadd, 1) := by decide +kernel
theorem dX8_control_70 : decode cX8_control 70 = .ok (.iastore, 1) := by decide +kernel
theorem dX8_control_71 : decode cX8_control 71 = .ok (.aload_n 0, 1) := by decide +kernel
theorem dX8_control_72 : decode cX8_control 72 = .ok (.aload_n 1, 1) := by decide +kernel
theorem dX8_control_73 : decode cX8_control 73 = .ok (.aload_n 0, 1) := by decide +kernel
theorem dX8_control_74 : decode cX8_control 74 = .ok (.getfield 104, 3) := by decide +kernel
theorem dX8_control_77 : decode cX8_control 77 = .ok (.iconst 1, 1) := by decide +kernel
theorem dX8_control_78 : decode cX8_control 78 = .ok (.if_icmp .ne 7, 3) := by decide +kernel
theorem dX8_control_81 : decode cX8_control 81 = .ok (.iconst 0, 1) := by decide +kernel
theorem dX8_control_82 : decode cX8_control 82 = .ok (.goto 4, 3) := by decide +kernel
theorem dX8_control_85 : decode cX8_control 85 = .ok (.iconst 1, 1) := by decide +kernel
theorem dX8_control_86 : decode cX8_control 86 = .ok (.invokevirtual 496, 3) := by decide +kernel
theorem dX8_control_89 : decode cX8_control 89 = .ok (.aload_n 0, 1) := by decide +kernel
theorem dX8_control_90 : decode cX8_control 90 = .ok (.getfield 104, 3) := by decide +kernel
theorem dX8_control_93 : decode cX8_control 93 = .ok (.iconst 1, 1) := by decide +kernel
theorem dX8_control_94 : decode cX8_control 94 = .ok (.if_icmp .ne 11, 3) := by decide +kernel
theorem dX8_control_97 : decode cX8_control 97 = .ok (.aload_n 0, 1) := by decide +kernel
theorem dX8_control_98 : decode cX8_control 98 = .ok (.aload_n 1, 1) := by decide +kernel
theorem dX8_control_99 : decode cX8_control 99 = .ok (.invokevirtual 499, 3) := by decide +kernel
theorem dX8_control_102 : decode cX8_control 102 = .ok (.goto 88, 3) := by decide +kernel
theorem dX8_control_105 : decode cX8_control 105 = .ok (.aload_n 0, 1) := by decide +kernel
theorem dX8_control_106 : decode cX8_control 106 = .ok (.aload_n 1, 1) := by decide +kernel
theorem dX8_control_107 : decode cX8_control 107 = .ok (.invokevirtual 502, 3) := by decide +kernel
theorem dX8_control_110 : decode cX8_control 110 = .ok (.goto 80, 3) := by decide +kernel
theorem dX8_control_113 : decode cX8_control 113 = .ok (.aload_n 0, 1) := by decide +kernel
theorem dX8_control_114 : decode cX8_control 114 = .ok (.aload_n 1, 1) := by decide +kernel
theorem dX8_control_115 : decode cX8_control 115 = .ok (.iconst 2, 1) := by decide +kernel
theorem dX8_control_116 : decode cX8_control 116 = .ok (.invokevirtual 496, 3) := by decide +kernel
theorem dX8_control_119 : decode cX8_control 119 = .ok (.aload_n 0, 1) := by decide +kernel
theorem dX8_control_120 : decode cX8_control 120 = .ok (.aload_n 1, 1) := by decide +kernel
theorem dX8_control_121 : decode cX8_control 121 = .ok (.aload_n 1, 1) := by decide +kernel
theorem dX8_control_122 : decode cX8_control 122 = .ok (.getfield 505, 3) := by decide +kernel
theorem dX8_control_125 : decode cX8_control 125 = .ok (.invokevirtual 508, 3) := by decide +kernel
theorem dX8_control_128 : decode cX8_control 128 = .ok (.goto 62, 3) := by decide +kernel
theorem dX8_control_131 : decode cX8_control 131 = .ok (.aload_n 0, 1) := by decide +kernel
theorem dX8_control_132 : decode cX8_control 132 = .ok (.aload_n 1, 1) := by decide +kernel
theorem dX8_control_133 : decode cX8_control 133 = .ok (.iconst 3, 1) := by decide +kernel
theorem dX8_control_134 : decode cX8_control 134 = .ok (.invokevirtual 496, 3) := by decide +kernel
theorem dX8_control_137 : decode cX8_control 137 = .ok (.aload_n 0, 1) := by decide +kernel
theorem dX8_control_138 : decode cX8_control 138 = .ok (.aload_n 1, 1) := by decide +kernel
theorem dX8_control_139 : decode cX8_control 139 = .ok (.aload_n 1, 1) := by decide +kernel
theorem dX8_control_140 : decode cX8_control 140 = .ok (.getfield 505, 3) := by decide +kernel
theorem dX8_control_143 : decode cX8_control 143 = .ok (.invokevirtual 512, 3) := by decide +kernel
theorem dX8_control_146 : decode cX8_control 146 = .ok (.goto 44, 3) := by decide +kernel
theorem dX8_control_149 : decode cX8_control 149 = .ok (.aload_n 0, 1) := by decide +kernel
theorem dX8_control_150 : decode cX8_control 150 = .ok (.aload_n 1, 1) := by decide +kernel
theorem dX8_control_151 : decode cX8_control 151 = .ok (.aload_n 1, 1) := by decide +kernel
theorem dX8_control_152 : decode cX8_control 152 = .ok (.getfield 505, 3) := by decide +kernel
theorem dX8_control_155 : decode cX8_control 155 = .ok (.invokevirtual 515, 3) := by decide +kernel
theorem dX8_control_158 : decode cX8_control 158 = .ok (.goto 32, 3) := by decide +kernel
theorem dX8_control_161 : decode cX8_control 161 = .ok (.aload_n 0, 1) := by decide +kernel
theorem dX8_control_162 : decode cX8_control 162 = .ok (.aload_n 1, 1) := by decide +kernel
theorem dX8_control_163 : decode cX8_control 163 = .ok (.invokevirtual 518, 3) := by decide +kernel
theorem dX8_control_166 : decode cX8_control 166 = .ok (.goto 24, 3) := by decide +kernel
theorem dX8_control_169 : decode cX8_control 169 = .ok (.aload_n 0, 1) := by decide +kernel
theorem dX8_control_170 : decode cX8_control 170 = .ok (.aload_n 1, 1) := by decide +kernel
theorem dX8_control_171 : decode cX8_control 171 = .ok (.aload_n 1, 1) := by decide +kernel
theorem dX8_control_172 : decode cX8_control 172 = .ok (.getfield 271, 3) := by decide +kernel
theorem dX8_control_175 : decode cX8_control 175 = .ok (.invokevirtual 521, 3) := by decide +kernel
theorem dX8_control_178 : decode cX8_control 178 = .ok (.goto 12, 3) := by decide +kernel
theorem dX8_control_181 : decode cX8_control 181 = .ok (.aload_n 0, 1) := by decide +kernel
theorem dX8_control_182 : decode cX8_control 182 = .ok (.aload_n 1, 1) := by decide +kernel
theorem dX8_control_183 : decode cX8_control 183 = .ok (.aload_n 1, 1) := by decide +kernel
theorem dX8_control_184 : decode cX8_control 184 = .ok (.getfield 198, 3) := by decide +kernel
theorem dX8_control_187 : decode cX8_control 187 = .ok (.invokevirtual 525, 3) := by decide +kernel
theorem dX8_control_190 : decode cX8_control 190 = .ok (.return_, 1) := by decide +kernel
theorem dX8_turnTo_0 : decode cX8_turnTo 0 = .ok (.aload_n 0, 1) := by decide +kernel
theorem dX8_turnTo_1 : decode cX8_turnTo 1 = .ok (.iload_n 1, 1) := by decide +kernel
theorem dX8_turnTo_2 : decode cX8_turnTo 2 = .ok (.putfield 104, 3) := by decide +kernel
theorem dX8_turnTo_5 : decode cX8_turnTo 5 = .ok (.aload_n 0, 1) := by decide +kernel
theorem dX8_turnTo_6 : decode cX8_turnTo 6 = .ok (.aload_n 2, 1) := by decide +kernel
theorem dX8_turnTo_7 : decode cX8_turnTo 7 = .ok (.putfield 107, 3) := by decide +kernel
theorem dX8_turnTo_10 : decode cX8_turnTo 10 = .ok (.return_, 1) := by decide +kernel
set_option maxRecDepth 20000 in
theorem ggX8_give_X8_turnTo : GoodIn wsX8_give wsX8_turnTo := goodIn_r _ [6, 7, 8, 24, 25, 26, 27, 28, 29, 30, 31, 32, 33, 34, 35, 36, 37, 38, 39, 40, 41, 42, 43, 44] (by decide +kernel) (by decide +kernel)
set_option maxRecDepth 20000 in
theorem gX8_give_X8_turnTo : GoodIn wsX8_give (wsV RX8 547 RX8 yX8_turnTo wsX8_turnTo) := goodIn_app (goodIn_of _ (by decide +kernel)) ggX8_give_X8_turnTo
theorem dX8_give_0 : decode cX8_give 0 = .ok (.aload_n 1, 1) := by decide +kernel
theorem dX8_give_1 : decode cX8_give 1 = .ok (.aload_n 2, 1) := by decide +kernel
theorem dX8_give_2 : decode cX8_give 2 = .ok (.putfield 544, 3) := by decide +kernel
theorem dX8_give_5 : decode cX8_give 5 = .ok (.aload_n 0, 1) := by decide +kernel
theorem dX8_give_6 : decode cX8_give 6 = .ok (.iconst 3, 1) := by decide +kernel
theorem dX8_give_7 : decode cX8_give 7 = .ok (.aload_n 1, 1) := by decide +kernel
theorem dX8_give_8 : decode cX8_give 8 = .ok (.invokevirtual 547, 3) := by decide +kernel
theorem dX8_give_11 : decode cX8_give 11 = .ok (.return_, 1) := by decide +kernel
theorem dX8_noMore_0 : decode cX8_noMore 0 = .ok (.aload_n 1, 1) := by decide +kernel
theorem dX8_noMore_1 : decode cX8_noMore 1 = .ok (.aconst_null, 1) := by decide +kernel
theorem dX8_noMore_2 : decode cX8_noMore 2 = .ok (.putfield 227, 3) := by decide +kernel
theorem dX8_noMore_5 : decode cX8_noMore 5 = .ok (.aload_n 1, 1) := by decide +kernel
theorem dX8_noMore_6 : decode cX8_noMore 6 = .ok (.iconst 0, 1) := by decide +kernel
theorem dX8_noMore_7 : decode cX8_noMore 7 = .ok (.putfield 226, 3) := by decide +kernel
theorem dX8_noMore_10 : decode cX8_noMore 10 = .ok (.aload_n 0, 1) := by decide +kernel
theorem dX8_noMore_11 : decode cX8_noMore 11 = .ok (.aload_n 1, 1) := by decide +kernel
theorem dX8_noMore_12 : decode cX8_noMore 12 = .ok (.getfield 551, 3) := by decide +kernel
theorem dX8_noMore_15 : decode cX8_noMore 15 = .ok (.ifnonnull 7, 3) := by decide +kernel
theorem dX8_noMore_18 : decode cX8_noMore 18 = .ok (.iconst 4, 1) := by decide +kernel
theorem dX8_noMore_19 : decode cX8_noMore 19 = .ok (.goto 4, 3) := by decide +kernel
theorem dX8_noMore_22 : decode cX8_noMore 22 = .ok (.iconst 2, 1) := by decide +kernel
theorem dX8_noMore_23 : decode cX8_noMore 23 = .ok (.putfield 104, 3) := by decide +kernel
theorem dX8_noMore_26 : decode cX8_noMore 26 = .ok (.aload_n 0, 1) := by decide +kernel
theorem dX8_noMore_27 : decode cX8_noMore 27 = .ok (.aload_n 1, 1) := by decide +kernel
theorem dX8_noMore_28 : decode cX8_noMore 28 = .ok (.getfield 551, 3) := by decide +kernel
theorem dX8_noMore_31 : decode cX8_noMore 31 = .ok (.ifnonnull 7, 3) := by decide +kernel
theorem dX8_noMore_34 : decode cX8_noMore 34 = .ok (.aload_n 1, 1) := by decide +kernel
theorem dX8_noMore_35 : decode cX8_noMore 35 = .ok (.goto 7, 3) := by decide +kernel
theorem dX8_noMore_38 : decode cX8_noMore 38 = .ok (.aload_n 1, 1) := by decide +kernel
theorem dX8_noMore_39 : decode cX8_noMore 39 = .ok (.getfield 551, 3) := by decide +kernel
theorem dX8_noMore_42 : decode cX8_noMore 42 = .ok (.putfield 107, 3) := by decide +kernel
theorem dX8_noMore_45 : decode cX8_noMore 45 = .ok (.return_, 1) := by decide +kernel
set_option maxRecDepth 20000 in
theorem ggX8_operand_X2_init : GoodIn wsX8_operand wsX2_init := goodIn_r _ [8, 9, 10, 11, 12, 13, 14, 15, 23, 24, 25, 26, 27, 28, 29, 30, 31, 32, 33, 34, 35, 36, 37] (by decide +kernel) (by decide +kernel)
set_option maxRecDepth 20000 in
theorem gX8_operand_X2_init : GoodIn wsX8_operand (wsX2_init) := ggX8_operand_X2_init
set_option maxRecDepth 20000 in
theorem ggX8_operand_X8_turnTo : GoodIn wsX8_operand wsX8_turnTo := goodIn_r _ [20, 21, 22, 38, 39, 40, 41, 42, 43, 44, 45, 46, 47, 48, 49, 50, 51, 52, 53, 54, 55, 56, 57, 58] (by decide +kernel) (by decide +kernel)
set_option maxRecDepth 20000 in
theorem gX8_operand_X8_turnTo : GoodIn wsX8_operand (wsV RX8 547 RX8 yX8_turnTo wsX8_turnTo) := goodIn_app (goodIn_of _ (by decide +kernel)) ggX8_operand_X8_turnTo
theorem dX8_operand_0 : decode cX8_operand 0 = .ok (.new 164, 3) := by decide +kernel
theorem dX8_operand_3 : decode cX8_operand 3 = .ok (.dup, 1) := by decide +kernel
theorem dX8_operand_4 : decode cX8_operand 4 = .ok (.aload_n 2, 1) := by decide +kernel
theorem dX8_operand_5 : decode cX8_operand 5 = .ok (.aload_n 1, 1) := by decide +kernel
theorem dX8_operand_6 : decode cX8_operand 6 = .ok (.invokespecial 166, 3) := by decide +kernel
theorem dX8_operand_9 : decode cX8_operand 9 = .ok (.astore_n 3, 1) := by decide +kernel
theorem dX8_operand_10 : decode cX8_operand 10 = .ok (.aload_n 3, 1) := by decide +kernel
theorem dX8_operand_11 : decode cX8_operand 11 = .ok (.aload_n 1, 1) := by decide +kernel
theorem dX8_operand_12 : decode cX8_operand 12 = .ok (.getfield 551, 3) := by decide +kernel
theorem dX8_operand_15 : decode cX8_operand 15 = .ok (.putfield 576, 3) := by decide +kernel
theorem dX8_operand_18 : decode cX8_operand 18 = .ok (.aload_n 1, 1) := by decide +kernel
theorem dX8_operand_19 : decode cX8_operand 19 = .ok (.aload_n 3, 1) := by decide +kernel
theorem dX8_operand_20 : decode cX8_operand 20 = .ok (.putfield 551, 3) := by decide +kernel
theorem dX8_operand_23 : decode cX8_operand 23 = .ok (.aload_n 0, 1) := by decide +kernel
theorem dX8_operand_24 : decode cX8_operand 24 = .ok (.iconst 1, 1) := by decide +kernel
theorem dX8_operand_25 : decode cX8_operand 25 = .ok (.aload_n 3, 1) := by decide +kernel
theorem dX8_operand_26 : decode cX8_operand 26 = .ok (.invokevirtual 547, 3) := by decide +kernel
theorem dX8_operand_29 : decode cX8_operand 29 = .ok (.return_, 1) := by decide +kernel
set_option maxRecDepth 20000 in
theorem ggX8_inner_X2_init : GoodIn wsX8_inner wsX2_init := goodIn_r _ [8, 9, 10, 11, 12, 13, 14, 15, 23, 24, 25, 26, 27, 28, 29, 30, 31, 32, 33, 34, 35, 36, 37] (by decide +kernel) (by decide +kernel)
set_option maxRecDepth 20000 in
theorem gX8_inner_X2_init : GoodIn wsX8_inner (wsX2_init) := ggX8_inner_X2_init
set_option maxRecDepth 20000 in
theorem ggX8_inner_X8_turnTo : GoodIn wsX8_inner wsX8_turnTo := goodIn_r _ [20, 21, 22, 38, 39, 40, 41, 42, 43, 44, 45, 46, 47, 48, 49, 50, 51, 52, 53, 54, 55, 56, 57, 58] (by decide +kernel) (by decide +kernel)
set_option maxRecDepth 20000 in
theorem gX8_inner_X8_turnTo : GoodIn wsX8_inner (wsV RX8 547 RX8 yX8_turnTo wsX8_turnTo) := goodIn_app (goodIn_of _ (by decide +kernel)) ggX8_inner_X8_turnTo
theorem dX8_inner_0 : decode cX8_inner 0 = .ok (.new 164, 3) := by decide +kernel
theorem dX8_inner_3 : decode cX8_inner 3 = .ok (.dup, 1) := by decide +kernel
theorem dX8_inner_4 : decode cX8_inner 4 = .ok (.aload_n 2, 1) := by decide +kernel
theorem dX8_inner_5 : decode cX8_inner 5 = .ok (.aload_n 1, 1) := by decide +kernel
theorem dX8_inner_6 : decode cX8_inner 6 = .ok (.invokespecial 166, 3) := by decide +kernel
theorem dX8_inner_9 : decode cX8_inner 9 = .ok (.astore 4, 2) := by decide +kernel
theorem dX8_inner_11 : decode cX8_inner 11 = .ok (.aload_n 1, 1) := by decide +kernel
theorem dX8_inner_12 : decode cX8_inner 12 = .ok (.aload 4, 2) := by decide +kernel
theorem dX8_inner_14 : decode cX8_inner 14 = .ok (.putfield 227, 3) := by decide +kernel
theorem dX8_inner_17 : decode cX8_inner 17 = .ok (.aload_n 1, 1) := by decide +kernel
theorem dX8_inner_18 : decode cX8_inner 18 = .ok (.iload_n 3, 1) := by decide +kernel
theorem dX8_inner_19 : decode cX8_inner 19 = .ok (.putfield 226, 3) := by decide +kernel
theorem dX8_inner_22 : decode cX8_inner 22 = .ok (.aload_n 0, 1) := by decide +kernel
theorem dX8_inner_23 : decode cX8_inner 23 = .ok (.iconst 1, 1) := by decide +kernel
theorem dX8_inner_24 : decode cX8_inner 24 = .ok (.aload 4, 2) := by decide +kernel
theorem dX8_inner_26 : decode cX8_inner 26 = .ok (.invokevirtual 547, 3) := by decide +kernel
theorem dX8_inner_29 : decode cX8_inner 29 = .ok (.aload 4, 2) := by decide +kernel
theorem dX8_inner_31 : decode cX8_inner 31 = .ok (.areturn, 1) := by decide +kernel
set_option maxRecDepth 20000 in
theorem ggX8_operands_X8_operand : GoodIn wsX8_operands wsX8_operand := goodIn_r _ [14, 15, 16, 17, 18, 19, 20, 21, 22, 23, 24, 25, 26, 27, 28, 29, 4, 5, 6, 7, 8, 9, 10, 65, 66, 67, 68, 69, 70, 71, 72, 73, 74, 75, 76, 77, 78, 79, 44, 45, 46, 47, 48, 49, 50, 51, 52, 53, 54, 55, 56, 57, 58, 59, 60, 61, 62, 63, 64] (by decide +kernel) (by decide +kernel)
set_option maxRecDepth 20000 in
theorem gX8_operands_X8_operand : GoodIn wsX8_operands (wsV RX8 583 RX8 yX8_operand wsX8_operand) := goodIn_app (goodIn_of _ (by decide +kernel)) ggX8_operands_X8_operand
theorem dX8_operands_0 : decode cX8_operands 0 = .ok (.aload_n 2, 1) := by decide +kernel
theorem dX8_operands_1 : decode cX8_operands 1 = .ok (.astore_n 3, 1) := by decide +kernel
theorem dX8_operands_2 : decode cX8_operands 2 = .ok (.iconst 0, 1) := by decide +kernel
theorem dX8_operands_3 : decode cX8_operands 3 = .ok (.istore 4, 2) := by decide +kernel
theorem dX8_operands_5 : decode cX8_operands 5 = .ok (.iload 4, 2) := by decide +kernel
theorem dX8_operands_7 : decode cX8_operands 7 = .ok (.ldc 215, 2) := by decide +kernel
theorem dX8_operands_9 : decode cX8_operands 9 = .ok (.if_icmp .ge 27, 3) := by decide +kernel
theorem dX8_operands_12 : decode cX8_operands 12 = .ok (.aload_n 3, 1) := by decide +kernel
theorem dX8_operands_13 : decode cX8_operands 13 = .ok (.ifnull 23, 3) := by decide +kernel
theorem dX8_operands_16 : decode cX8_operands 16 = .ok (.aload_n 3, 1) := by decide +kernel
theorem dX8_operands_17 : decode cX8_operands 17 = .ok (.getfield 579, 3) := by decide +kernel
theorem dX8_operands_20 : decode cX8_operands 20 = .ok (.bipush 13, 2) := by decide +kernel
theorem dX8_operands_22 : decode cX8_operands 22 = .ok (.if_icmp .ne 14, 3) := by decide +kernel
theorem dX8_operands_25 : decode cX8_operands 25 = .ok (.aload_n 3, 1) := by decide +kernel
theorem dX8_operands_26 : decode cX8_operands 26 = .ok (.getfield 580, 3) := by decide +kernel
theorem dX8_operands_29 : decode cX8_operands 29 = .ok (.astore_n 3, 1) := by decide +kernel
theorem dX8_operands_30 : decode cX8_operands 30 = .ok (.iinc 4 1, 3) := by decide +kernel
theorem dX8_operands_33 : decode cX8_operands 33 = .ok (.goto (-28), 3) := by decide +kernel
theorem dX8_operands_36 : decode cX8_operands 36 = .ok (.aload_n 3, 1) := by decide +kernel
theorem dX8_operands_37 : decode cX8_operands 37 = .ok (.ifnonnull 13, 3) := by decide +kernel
theorem dX8_operands_40 : decode cX8_operands 40 = .ok (.aload_n 0, 1) := by decide +kernel
theorem dX8_operands_41 : decode cX8_operands 41 = .ok (.bipush 10, 2) := by decide +kernel
theorem dX8_operands_43 : decode cX8_operands 43 = .ok (.aload_n 1, 1) := by decide +kernel
theorem dX8_operands_44 : decode cX8_operands 44 = .ok (.invokevirtual 547, 3) := by decide +kernel
theorem dX8_operands_47 : decode cX8_operands 47 = .ok (.goto 9, 3) := by decide +kernel
theorem dX8_operands_50 : decode cX8_operands 50 = .ok (.aload_n 0, 1) := by decide +kernel
theorem dX8_operands_51 : decode cX8_operands 51 = .ok (.aload_n 1, 1) := by decide +kernel
theorem dX8_operands_52 : decode cX8_operands 52 = .ok (.aload_n 3, 1) := by decide +kernel
theorem dX8_operands_53 : decode cX8_operands 53 = .ok (.invokevirtual 583, 3) := by decide +kernel
theorem dX8_operands_56 : decode cX8_operands 56 = .ok (.return_, 1) := by decide +kernel
set_option maxRecDepth 20000 in
theorem ggX8_begin_X8_give : GoodIn wsX8_begin wsX8_give := goodIn_r _ [23, 24, 25, 26, 27, 12, 28, 29, 30, 105, 106, 107, 108, 109, 110, 111, 112, 113, 114, 115, 116, 117, 118, 119, 134, 135, 136, 137, 138, 139, 140, 141, 142, 143, 144, 145, 146, 147, 148, 149, 150, 151, 152, 153, 154] (by decide +kernel) (by decide +kernel)
set_option maxRecDepth 20000 in
theorem gX8_begin_X8_give : GoodIn wsX8_begin (wsV RX8 590 RX8 yX8_give wsX8_give) := goodIn_app (goodIn_of _ (by decide +kernel)) ggX8_begin_X8_give
theorem dX8_begin_0 : decode cX8_begin 0 = .ok (.aload_n 1, 1) := by decide +kernel
theorem dX8_begin_1 : decode cX8_begin 1 = .ok (.getfield 271, 3) := by decide +kernel
theorem dX8_begin_4 : decode cX8_begin 4 = .ok (.astore_n 2, 1) := by decide +kernel
theorem dX8_begin_5 : decode cX8_begin 5 = .ok (.aload_n 1, 1) := by decide +kernel
theorem dX8_begin_6 : decode cX8_begin 6 = .ok (.iconst 1, 1) := by decide +kernel
theorem dX8_begin_7 : decode cX8_begin 7 = .ok (.putfield 226, 3) := by decide +kernel
theorem dX8_begin_10 : decode cX8_begin 10 = .ok (.aload_n 2, 1) := by decide +kernel
theorem dX8_begin_11 : decode cX8_begin 11 = .ok (.getfield 579, 3) := by decide +kernel
theorem dX8_begin_14 : decode cX8_begin 14 = .ok (.tableswitch 171 0 12 #[66, 80, 80, 80, 92, 119, 171, 171, 171, 171, 128, 104, 162], 66) := by decide +kernel
theorem dX8_begin_80 : decode cX8_begin 80 = .ok (.aload_n 0, 1) := by decide +kernel
theorem dX8_begin_81 : decode cX8_begin 81 = .ok (.aload_n 1, 1) := by decide +kernel
theorem dX8_begin_82 : decode cX8_begin 82 = .ok (.aload_n 0, 1) := by decide +kernel
theorem dX8_begin_83 : decode cX8_begin 83 = .ok (.aload_n 1, 1) := by decide +kernel
theorem dX8_begin_84 : decode cX8_begin 84 = .ok (.aload_n 2, 1) := by decide +kernel
theorem dX8_begin_85 : decode cX8_begin 85 = .ok (.invokevirtual 586, 3) := by decide +kernel
theorem dX8_begin_88 : decode cX8_begin 88 = .ok (.invokevirtual 590, 3) := by decide +kernel
theorem dX8_begin_91 : decode cX8_begin 91 = .ok (.goto 108, 3) := by decide +kernel
theorem dX8_begin_94 : decode cX8_begin 94 = .ok (.aload_n 0, 1) := by decide +kernel
theorem dX8_begin_95 : decode cX8_begin 95 = .ok (.aload_n 1, 1) := by decide +kernel
theorem dX8_begin_96 : decode cX8_begin 96 = .ok (.aload_n 2, 1) := by decide +kernel
theorem dX8_begin_97 : decode cX8_begin 97 = .ok (.getfield 593, 3) := by decide +kernel
theorem dX8_begin_100 : decode cX8_begin 100 = .ok (.invokevirtual 590, 3) := by decide +kernel
theorem dX8_begin_103 : decode cX8_begin 103 = .ok (.goto 96, 3) := by decide +kernel
theorem dX8_begin_106 : decode cX8_begin 106 = .ok (.aload_n 0, 1) := by decide +kernel
theorem dX8_begin_107 : decode cX8_begin 107 = .ok (.aload_n 1, 1) := by decide +kernel
theorem dX8_begin_108 : decode cX8_begin 108 = .ok (.aload_n 2, 1) := by decide +kernel
theorem dX8_begin_109 : decode cX8_begin 109 = .ok (.getfield 529, 3) := by decide +kernel
theorem dX8_begin_112 : decode cX8_begin 112 = .ok (.invokevirtual 596, 3) := by decide +kernel
theorem dX8_begin_115 : decode cX8_begin 115 = .ok (.goto 84, 3) := by decide +kernel
theorem dX8_begin_118 : decode cX8_begin 118 = .ok (.aload_n 0, 1) := by decide +kernel
theorem dX8_begin_119 : decode cX8_begin 119 = .ok (.aload_n 1, 1) := by decide +kernel
theorem dX8_begin_120 : decode cX8_begin 120 = .ok (.aload_n 0, 1) := by decide +kernel
theorem dX8_begin_121 : decode cX8_begin 121 = .ok (.getfield 45, 3) := by decide +kernel
theorem dX8_begin_124 : decode cX8_begin 124 = .ok (.getfield 84, 3) := by decide +kernel
theorem dX8_begin_127 : decode cX8_begin 127 = .ok (.invokevirtual 590, 3) := by decide +kernel
theorem dX8_begin_130 : decode cX8_begin 130 = .ok (.goto 69, 3) := by decide +kernel
theorem dX8_begin_133 : decode cX8_begin 133 = .ok (.aload_n 0, 1) := by decide +kernel
theorem dX8_begin_134 : decode cX8_begin 134 = .ok (.aload_n 1, 1) := by decide +kernel
theorem dX8_begin_135 : decode cX8_begin 135 = .ok (.aload_n 2, 1) := by decide +kernel
theorem dX8_begin_136 : decode cX8_begin 136 = .ok (.invokevirtual 599, 3) := by decide +kernel
theorem dX8_begin_139 : decode cX8_begin 139 = .ok (.goto 60, 3) := by decide +kernel
theorem dX8_begin_142 : decode cX8_begin 142 = .ok (.aload_n 2, 1) := by decide +kernel
theorem dX8_begin_143 : decode cX8_begin 143 = .ok (.getfield 602, 3) := by decide +kernel
theorem dX8_begin_146 : decode cX8_begin 146 = .ok (.ifnonnull 18, 3) := by decide +kernel
theorem dX8_begin_149 : decode cX8_begin 149 = .ok (.aload_n 0, 1) := by decide +kernel
theorem dX8_begin_150 : decode cX8_begin 150 = .ok (.aload_n 1, 1) := by decide +kernel
theorem dX8_begin_151 : decode cX8_begin 151 = .ok (.aload_n 0, 1) := by decide +kernel
theorem dX8_begin_152 : decode cX8_begin 152 = .ok (.getfield 45, 3) := by decide +kernel
theorem dX8_begin_155 : decode cX8_begin 155 = .ok (.getfield 84, 3) := by decide +kernel
theorem dX8_begin_158 : decode cX8_begin 158 = .ok (.invokevirtual 590, 3) := by decide +kernel
theorem dX8_begin_161 : decode cX8_begin 161 = .ok (.goto 38, 3) := by decide +kernel
theorem dX8_begin_164 : decode cX8_begin 164 = .ok (.aload_n 0, 1) := by decide +kernel
theorem dX8_begin_165 : decode cX8_begin 165 = .ok (.aload_n 1, 1) := by decide +kernel
theorem dX8_begin_166 : decode cX8_begin 166 = .ok (.aload_n 2, 1) := by decide +kernel
theorem dX8_begin_167 : decode cX8_begin 167 = .ok (.getfield 602, 3) := by decide +kernel
theorem dX8_begin_170 : decode cX8_begin 170 = .ok (.invokevirtual 605, 3) := by decide +kernel
theorem dX8_begin_173 : decode cX8_begin 173 = .ok (.goto 26, 3) := by decide +kernel
theorem dX8_begin_176 : decode cX8_begin 176 = .ok (.aload_n 0, 1) := by decide +kernel
theorem dX8_begin_177 : decode cX8_begin 177 = .ok (.aload_n 1, 1) := by decide +kernel
theorem dX8_begin_178 : decode cX8_begin 178 = .ok (.aload_n 2, 1) := by decide +kernel
theorem dX8_begin_179 : decode cX8_begin 179 = .ok (.invokevirtual 608, 3) := by decide +kernel
theorem dX8_begin_182 : decode cX8_begin 182 = .ok (.goto 17, 3) := by decide +kernel
theorem dX8_begin_185 : decode cX8_begin 185 = .ok (.aload_n 1, 1) := by decide +kernel
theorem dX8_begin_186 : decode cX8_begin 186 = .ok (.iconst 0, 1) := by decide +kernel
theorem dX8_begin_187 : decode cX8_begin 187 = .ok (.putfield 226, 3) := by decide +kernel
theorem dX8_begin_190 : decode cX8_begin 190 = .ok (.aload_n 0, 1) := by decide +kernel
theorem dX8_begin_191 : decode cX8_begin 191 = .ok (.aload_n 1, 1) := by decide +kernel
theorem dX8_begin_192 : decode cX8_begin 192 = .ok (.aload_n 2, 1) := by decide +kernel
theorem dX8_begin_193 : decode cX8_begin 193 = .ok (.getfield 602, 3) := by decide +kernel
theorem dX8_begin_196 : decode cX8_begin 196 = .ok (.invokevirtual 611, 3) := by decide +kernel
theorem dX8_begin_199 : decode cX8_begin 199 = .ok (.return_, 1) := by decide +kernel
set_option maxRecDepth 20000 in
theorem ggX8_gave_X8_operands : GoodIn wsX8_gave wsX8_operands := goodIn_r _ [94, 95, 7, 4, 9, 10, 11, 12, 13, 14, 15, 96, 97, 98, 99, 58, 59, 60, 53, 100, 61, 62, 63, 64, 65, 66, 67, 68, 69, 70, 116, 117, 118, 119, 120, 121, 122, 123, 124, 125, 126, 127, 128, 129, 130, 131, 132, 133, 134, 135, 136, 137, 138, 139, 140, 141, 142, 143, 144, 145, 146, 147, 148, 149, 150, 101, 102, 103, 104, 105, 106, 107, 108, 109, 110, 111, 112, 113, 114, 115] (by decide +kernel) (by decide +kernel)
set_option maxRecDepth 20000 in
theorem gX8_gave_X8_operands : GoodIn wsX8_gave (wsV RX8 611 RX8 yX8_operands wsX8_operands) := goodIn_app (goodIn_of _ (by decide +kernel)) ggX8_gave_X8_operands
theorem dX8_gave_0 : decode cX8_gave 0 = .ok (.aload_n 2, 1) := by decide +kernel
theorem dX8_gave_1 : decode cX8_gave 1 = .ok (.ifnonnull 10, 3) := by decide +kernel
theorem dX8_gave_4 : decode cX8_gave 4 = .ok (.aload_n 0, 1) := by decide +kernel
theorem dX8_gave_5 : decode cX8_gave 5 = .ok (.iconst 0, 1) := by decide +kernel
theorem dX8_gave_6 : decode cX8_gave 6 = .ok (.aload_n 1, 1) := by decide +kernel
theorem dX8_gave_7 : decode cX8_gave 7 = .ok (.invokevirtual 547, 3) := by decide +kernel
theorem dX8_gave_10 : decode cX8_gave 10 = .ok (.return_, 1) := by decide +kernel
theorem dX8_gave_11 : decode cX8_gave 11 = .ok (.aload_n 2, 1) := by decide +kernel
theorem dX8_gave_12 : decode cX8_gave 12 = .ok (.getfield 226, 3) := by decide +kernel
theorem dX8_gave_15 : decode cX8_gave 15 = .ok (.tableswitch 180 3 15 #[65, 77, 77, 180, 86, 171, 101, 123, 137, 154, 163, 171, 171], 65) := by decide +kernel
theorem dX8_gave_80 : decode cX8_gave 80 = .ok (.aload_n 0, 1) := by decide +kernel
theorem dX8_gave_81 : decode cX8_gave 81 = .ok (.aload_n 2, 1) := by decide +kernel
theorem dX8_gave_82 : decode cX8_gave 82 = .ok (.aload_n 1, 1) := by decide +kernel
theorem dX8_gave_83 : decode cX8_gave 83 = .ok (.getfield 544, 3) := by decide +kernel
theorem dX8_gave_86 : decode cX8_gave 86 = .ok (.invokevirtual 590, 3) := by decide +kernel
theorem dX8_gave_89 : decode cX8_gave 89 = .ok (.goto 165, 3) := by decide +kernel
theorem dX8_gave_92 : decode cX8_gave 92 = .ok (.aload_n 0, 1) := by decide +kernel
theorem dX8_gave_93 : decode cX8_gave 93 = .ok (.aload_n 1, 1) := by decide +kernel
theorem dX8_gave_94 : decode cX8_gave 94 = .ok (.aload_n 2, 1) := by decide +kernel
theorem dX8_gave_95 : decode cX8_gave 95 = .ok (.invokevirtual 656, 3) := by decide +kernel
theorem dX8_gave_98 : decode cX8_gave 98 = .ok (.goto 156, 3) := by decide +kernel
theorem dX8_gave_101 : decode cX8_gave 101 = .ok (.aload_n 0, 1) := by decide +kernel
theorem dX8_gave_102 : decode cX8_gave 102 = .ok (.aload_n 2, 1) := by decide +kernel
theorem dX8_gave_103 : decode cX8_gave 103 = .ok (.aload_n 1, 1) := by decide +kernel
theorem dX8_gave_104 : decode cX8_gave 104 = .ok (.getfield 271, 3) := by decide +kernel
theorem dX8_gave_107 : decode cX8_gave 107 = .ok (.getfield 580, 3) := by decide +kernel
theorem dX8_gave_110 : decode cX8_gave 110 = .ok (.invokevirtual 605, 3) := by decide +kernel
theorem dX8_gave_113 : decode cX8_gave 113 = .ok (.goto 141, 3) := by decide +kernel
theorem dX8_gave_116 : decode cX8_gave 116 = .ok (.aload_n 2, 1) := by decide +kernel
theorem dX8_gave_117 : decode cX8_gave 117 = .ok (.dup, 1) := by decide +kernel
theorem dX8_gave_118 : decode cX8_gave 118 = .ok (.getfield 633, 3) := by decide +kernel
theorem dX8_gave_121 : decode cX8_gave 121 = .ok (.lconst 1, 1) := by decide +kernel
theorem dX8_gave_122 : decode cX8_gave 122 = .ok (.lsub, 1) := by decide +kernel
theorem dX8_gave_123 : decode cX8_gave 123 = .ok (.putfield 633, 3) := by decide +kernel
theorem dX8_gave_126 : decode cX8_gave 126 = .ok (.aload_n 0, 1) := by decide +kernel
theorem dX8_gave_127 : decode cX8_gave 127 = .ok (.aload_n 2, 1) := by decide +kernel
theorem dX8_gave_128 : decode cX8_gave 128 = .ok (.aload_n 1, 1) := by decide +kernel
theorem dX8_gave_129 : decode cX8_gave 129 = .ok (.getfield 544, 3) := by decide +kernel
theorem dX8_gave_132 : decode cX8_gave 132 = .ok (.invokevirtual 590, 3) := by decide +kernel
theorem dX8_gave_135 : decode cX8_gave 135 = .ok (.goto 119, 3) := by decide +kernel
theorem dX8_gave_138 : decode cX8_gave 138 = .ok (.aload_n 2, 1) := by decide +kernel
theorem dX8_gave_139 : decode cX8_gave 139 = .ok (.aconst_null, 1) := by decide +kernel
theorem dX8_gave_140 : decode cX8_gave 140 = .ok (.putfield 227, 3) := by decide +kernel
theorem dX8_gave_143 : decode cX8_gave 143 = .ok (.aload_n 0, 1) := by decide +kernel
theorem dX8_gave_144 : decode cX8_gave 144 = .ok (.iconst 4, 1) := by decide +kernel
theorem dX8_gave_145 : decode cX8_gave 145 = .ok (.aload_n 2, 1) := by decide +kernel
theorem dX8_gave_146 : decode cX8_gave 146 = .ok (.invokevirtual 547, 3) := by decide +kernel
theorem dX8_gave_149 : decode cX8_gave 149 = .ok (.goto 105, 3) := by decide +kernel
theorem dX8_gave_152 : decode cX8_gave 152 = .ok (.aload_n 2, 1) := by decide +kernel
theorem dX8_gave_153 : decode cX8_gave 153 = .ok (.lconst 1, 1) := by decide +kernel
theorem dX8_gave_154 : decode cX8_gave 154 = .ok (.putfield 633, 3) := by decide +kernel
theorem dX8_gave_157 : decode cX8_gave 157 = .ok (.aload_n 0, 1) := by decide +kernel
theorem dX8_gave_158 : decode cX8_gave 158 = .ok (.aload_n 2, 1) := by decide +kernel
theorem dX8_gave_159 : decode cX8_gave 159 = .ok (.aload_n 1, 1) := by decide +kernel
theorem dX8_gave_160 : decode cX8_gave 160 = .ok (.getfield 544, 3) := by decide +kernel
theorem dX8_gave_163 : decode cX8_gave 163 = .ok (.invokevirtual 590, 3) := by decide +kernel
theorem dX8_gave_166 : decode cX8_gave 166 = .ok (.goto 88, 3) := by decide +kernel
theorem dX8_gave_169 : decode cX8_gave 169 = .ok (.aload_n 0, 1) := by decide +kernel
theorem dX8_gave_170 : decode cX8_gave 170 = .ok (.aload_n 1, 1) := by decide +kernel
theorem dX8_gave_171 : decode cX8_gave 171 = .ok (.aload_n 2, 1) := by decide +kernel
theorem dX8_gave_172 : decode cX8_gave 172 = .ok (.invokevirtual 659, 3) := by decide +kernel
theorem dX8_gave_175 : decode cX8_gave 175 = .ok (.goto 79, 3) := by decide +kernel
theorem dX8_gave_178 : decode cX8_gave 178 = .ok (.aload_n 0, 1) := by decide +kernel
theorem dX8_gave_179 : decode cX8_gave 179 = .ok (.aload_n 2, 1) := by decide +kernel
theorem dX8_gave_180 : decode cX8_gave 180 = .ok (.invokevirtual 662, 3) := by decide +kernel
theorem dX8_gave_183 : decode cX8_gave 183 = .ok (.goto 71, 3) := by decide +kernel
theorem dX8_gave_186 : decode cX8_gave 186 = .ok (.aload_n 0, 1) := by decide +kernel
theorem dX8_gave_187 : decode cX8_gave 187 = .ok (.iconst 5, 1) := by decide +kernel
theorem dX8_gave_188 : decode cX8_gave 188 = .ok (.aload_n 1, 1) := by decide +kernel
theorem dX8_gave_189 : decode cX8_gave 189 = .ok (.invokevirtual 547, 3) := by decide +kernel
theorem dX8_gave_192 : decode cX8_gave 192 = .ok (.goto 62, 3) := by decide +kernel
theorem dX8_gave_195 : decode cX8_gave 195 = .ok (.aload_n 2, 1) := by decide +kernel
theorem dX8_gave_196 : decode cX8_gave 196 = .ok (.getfield 271, 3) := by decide +kernel
theorem dX8_gave_199 : decode cX8_gave 199 = .ok (.astore_n 3, 1) := by decide +kernel
theorem dX8_gave_200 : decode cX8_gave 200 = .ok (.aload_n 3, 1) := by decide +kernel
theorem dX8_gave_201 : decode cX8_gave 201 = .ok (.getfield 579, 3) := by decide +kernel
theorem dX8_gave_204 : decode cX8_gave 204 = .ok (.iconst 5, 1) := by decide +kernel
theorem dX8_gave_205 : decode cX8_gave 205 = .ok (.if_icmp .ne 25, 3) := by decide +kernel
theorem dX8_gave_208 : decode cX8_gave 208 = .ok (.aload_n 3, 1) := by decide +kernel
theorem dX8_gave_209 : decode cX8_gave 209 = .ok (.getfield 529, 3) := by decide +kernel
theorem dX8_gave_212 : decode cX8_gave 212 = .ok (.bipush 13, 2) := by decide +kernel
theorem dX8_gave_214 : decode cX8_gave 214 = .ok (.if_icmp .eq 12, 3) := by decide +kernel
theorem dX8_gave_217 : decode cX8_gave 217 = .ok (.aload_n 3, 1) := by decide +kernel
theorem dX8_gave_218 : decode cX8_gave 218 = .ok (.getfield 529, 3) := by decide +kernel
theorem dX8_gave_221 : decode cX8_gave 221 = .ok (.bipush 44, 2) := by decide +kernel
theorem dX8_gave_223 : decode cX8_gave 223 = .ok (.if_icmp .ne 7, 3) := by decide +kernel
theorem dX8_gave_226 : decode cX8_gave 226 = .ok (.iconst 1, 1) := by decide +kernel
theorem dX8_gave_227 : decode cX8_gave 227 = .ok (.goto 4, 3) := by decide +kernel
theorem dX8_gave_230 : decode cX8_gave 230 = .ok (.iconst 0, 1) := by decide +kernel
theorem dX8_gave_231 : decode cX8_gave 231 = .ok (.istore 4, 2) := by decide +kernel
theorem dX8_gave_233 : decode cX8_gave 233 = .ok (.aload_n 0, 1) := by decide +kernel
theorem dX8_gave_234 : decode cX8_gave 234 = .ok (.aload_n 2, 1) := by decide +kernel
theorem dX8_gave_235 : decode cX8_gave 235 = .ok (.iload 4, 2) := by decide +kernel
theorem dX8_gave_237 : decode cX8_gave 237 = .ok (.ifCond .eq 7, 3) := by decide +kernel
theorem dX8_gave_240 : decode cX8_gave 240 = .ok (.aconst_null, 1) := by decide +kernel
theorem dX8_gave_241 : decode cX8_gave 241 = .ok (.goto 10, 3) := by decide +kernel
theorem dX8_gave_244 : decode cX8_gave 244 = .ok (.aload_n 1, 1) := by decide +kernel
theorem dX8_gave_245 : decode cX8_gave 245 = .ok (.getfield 271, 3) := by decide +kernel
theorem dX8_gave_248 : decode cX8_gave 248 = .ok (.getfield 580, 3) := by decide +kernel
theorem dX8_gave_251 : decode cX8_gave 251 = .ok (.invokevirtual 611, 3) := by decide +kernel
theorem dX8_gave_254 : decode cX8_gave 254 = .ok (.return_, 1) := by decide +kernel
set_option maxRecDepth 20000 in
theorem ggX8_failed_X8_noMore : GoodIn wsX8_failed wsX8_noMore := goodIn_r _ [67, 5, 1, 10, 16, 17, 111, 112, 113, 114, 115, 116, 117, 118, 119, 120, 121, 122, 123, 124, 125, 140, 141, 142, 143, 144, 145, 146, 147, 148, 149, 150, 151, 152, 153, 154, 155, 156, 157, 158, 159, 160] (by decide +kernel) (by decide +kernel)
set_option maxRecDepth 20000 in
theorem gX8_failed_X8_noMore : GoodIn wsX8_failed (wsV RX8 554 RX8 yX8_noMore wsX8_noMore) := goodIn_app (goodIn_of _ (by decide +kernel)) ggX8_failed_X8_noMore
theorem dX8_failed_0 : decode cX8_failed 0 = .ok (.aload_n 2, 1) := by decide +kernel
theorem dX8_failed_1 : decode cX8_failed 1 = .ok (.ifnonnull 10, 3) := by decide +kernel
theorem dX8_failed_4 : decode cX8_failed 4 = .ok (.aload_n 0, 1) := by decide +kernel
theorem dX8_failed_5 : decode cX8_failed 5 = .ok (.iconst 0, 1) := by decide +kernel
theorem dX8_failed_6 : decode cX8_failed 6 = .ok (.aload_n 1, 1) := by decide +kernel
theorem dX8_failed_7 : decode cX8_failed 7 = .ok (.invokevirtual 547, 3) := by decide +kernel
theorem dX8_failed_10 : decode cX8_failed 10 = .ok (.return_, 1) := by decide +kernel
theorem dX8_failed_11 : decode cX8_failed 11 = .ok (.aload_n 2, 1) := by decide +kernel
theorem dX8_failed_12 : decode cX8_failed 12 = .ok (.getfield 226, 3) := by decide +kernel
theorem dX8_failed_15 : decode cX8_failed 15 = .ok (.tableswitch 245 3 15 #[65, 117, 117, 245, 126, 141, 141, 149, 174, 212, 221, 229, 237], 65) := by decide +kernel
theorem dX8_failed_80 : decode cX8_failed 80 = .ok (.aload_n 2, 1) := by decide +kernel
theorem dX8_failed_81 : decode cX8_failed 81 = .ok (.getfield 271, 3) := by decide +kernel
theorem dX8_failed_84 : decode cX8_failed 84 = .ok (.getfield 579, 3) := by decide +kernel
theorem dX8_failed_87 : decode cX8_failed 87 = .ok (.iconst 5, 1) := by decide +kernel
theorem dX8_failed_88 : decode cX8_failed 88 = .ok (.if_icmp .ne 30, 3) := by decide +kernel
theorem dX8_failed_91 : decode cX8_failed 91 = .ok (.aload_n 1, 1) := by decide +kernel
theorem dX8_failed_92 : decode cX8_failed 92 = .ok (.getfield 271, 3) := by decide +kernel
theorem dX8_failed_95 : decode cX8_failed 95 = .ok (.getfield 580, 3) := by decide +kernel
theorem dX8_failed_98 : decode cX8_failed 98 = .ok (.ifnull 20, 3) := by decide +kernel
theorem dX8_failed_101 : decode cX8_failed 101 = .ok (.aload_n 0, 1) := by decide +kernel
theorem dX8_failed_102 : decode cX8_failed 102 = .ok (.aload_n 2, 1) := by decide +kernel
theorem dX8_failed_103 : decode cX8_failed 103 = .ok (.aload_n 1, 1) := by decide +kernel
theorem dX8_failed_104 : decode cX8_failed 104 = .ok (.getfield 271, 3) := by decide +kernel
theorem dX8_failed_107 : decode cX8_failed 107 = .ok (.getfield 580, 3) := by decide +kernel
theorem dX8_failed_110 : decode cX8_failed 110 = .ok (.iconst 3, 1) := by decide +kernel
theorem dX8_failed_111 : decode cX8_failed 111 = .ok (.invokevirtual 639, 3) := by decide +kernel
theorem dX8_failed_114 : decode cX8_failed 114 = .ok (.pop, 1) := by decide +kernel
theorem dX8_failed_115 : decode cX8_failed 115 = .ok (.goto 158, 3) := by decide +kernel
theorem dX8_failed_118 : decode cX8_failed 118 = .ok (.aload_n 2, 1) := by decide +kernel
theorem dX8_failed_119 : decode cX8_failed 119 = .ok (.aconst_null, 1) := by decide +kernel
theorem dX8_failed_120 : decode cX8_failed 120 = .ok (.putfield 227, 3) := by decide +kernel
theorem dX8_failed_123 : decode cX8_failed 123 = .ok (.aload_n 0, 1) := by decide +kernel
theorem dX8_failed_124 : decode cX8_failed 124 = .ok (.iconst 4, 1) := by decide +kernel
theorem dX8_failed_125 : decode cX8_failed 125 = .ok (.aload_n 2, 1) := by decide +kernel
theorem dX8_failed_126 : decode cX8_failed 126 = .ok (.invokevirtual 547, 3) := by decide +kernel
theorem dX8_failed_129 : decode cX8_failed 129 = .ok (.goto 144, 3) := by decide +kernel
theorem dX8_failed_132 : decode cX8_failed 132 = .ok (.aload_n 0, 1) := by decide +kernel
theorem dX8_failed_133 : decode cX8_failed 133 = .ok (.aload_n 1, 1) := by decide +kernel
theorem dX8_failed_134 : decode cX8_failed 134 = .ok (.aload_n 2, 1) := by decide +kernel
theorem dX8_failed_135 : decode cX8_failed 135 = .ok (.invokevirtual 656, 3) := by decide +kernel
theorem dX8_failed_138 : decode cX8_failed 138 = .ok (.goto 135, 3) := by decide +kernel
theorem dX8_failed_141 : decode cX8_failed 141 = .ok (.aload_n 0, 1) := by decide +kernel
theorem dX8_failed_142 : decode cX8_failed 142 = .ok (.aload_n 2, 1) := by decide +kernel
theorem dX8_failed_143 : decode cX8_failed 143 = .ok (.aload_n 1, 1) := by decide +kernel
theorem dX8_failed_144 : decode cX8_failed 144 = .ok (.getfield 271, 3) := by decide +kernel
theorem dX8_failed_147 : decode cX8_failed 147 = .ok (.getfield 580, 3) := by decide +kernel
theorem dX8_failed_150 : decode cX8_failed 150 = .ok (.invokevirtual 605, 3) := by decide +kernel
theorem dX8_failed_153 : decode cX8_failed 153 = .ok (.goto 120, 3) := by decide +kernel
theorem dX8_failed_156 : decode cX8_failed 156 = .ok (.aload_n 0, 1) := by decide +kernel
theorem dX8_failed_157 : decode cX8_failed 157 = .ok (.aload_n 2, 1) := by decide +kernel
theorem dX8_failed_158 : decode cX8_failed 158 = .ok (.invokevirtual 554, 3) := by decide +kernel
theorem dX8_failed_161 : decode cX8_failed 161 = .ok (.goto 112, 3) := by decide +kernel
theorem dX8_failed_164 : decode cX8_failed 164 = .ok (.aload_n 2, 1) := by decide +kernel
theorem dX8_failed_165 : decode cX8_failed 165 = .ok (.aconst_null, 1) := by decide +kernel
theorem dX8_failed_166 : decode cX8_failed 166 = .ok (.putfield 227, 3) := by decide +kernel
theorem dX8_failed_169 : decode cX8_failed 169 = .ok (.aload_n 2, 1) := by decide +kernel
theorem dX8_failed_170 : decode cX8_failed 170 = .ok (.iconst 1, 1) := by decide +kernel
theorem dX8_failed_171 : decode cX8_failed 171 = .ok (.putfield 226, 3) := by decide +kernel
theorem dX8_failed_174 : decode cX8_failed 174 = .ok (.aload_n 0, 1) := by decide +kernel
theorem dX8_failed_175 : decode cX8_failed 175 = .ok (.aload_n 2, 1) := by decide +kernel
theorem dX8_failed_176 : decode cX8_failed 176 = .ok (.aload_n 0, 1) := by decide +kernel
theorem dX8_failed_177 : decode cX8_failed 177 = .ok (.getfield 45, 3) := by decide +kernel
theorem dX8_failed_180 : decode cX8_failed 180 = .ok (.getfield 84, 3) := by decide +kernel
theorem dX8_failed_183 : decode cX8_failed 183 = .ok (.invokevirtual 590, 3) := by decide +kernel
theorem dX8_failed_186 : decode cX8_failed 186 = .ok (.goto 87, 3) := by decide +kernel
theorem dX8_failed_189 : decode cX8_failed 189 = .ok (.aload_n 2, 1) := by decide +kernel
theorem dX8_failed_190 : decode cX8_failed 190 = .ok (.getfield 633, 3) := by decide +kernel
theorem dX8_failed_193 : decode cX8_failed 193 = .ok (.lconst 0, 1) := by decide +kernel
theorem dX8_failed_194 : decode cX8_failed 194 = .ok (.lcmp, 1) := by decide +kernel
theorem dX8_failed_195 : decode cX8_failed 195 = .ok (.ifCond .ne 12, 3) := by decide +kernel
theorem dX8_failed_198 : decode cX8_failed 198 = .ok (.aload_n 0, 1) := by decide +kernel
theorem dX8_failed_199 : decode cX8_failed 199 = .ok (.iconst 4, 1) := by decide +kernel
theorem dX8_failed_200 : decode cX8_failed 200 = .ok (.aload_n 2, 1) := by decide +kernel
theorem dX8_failed_201 : decode cX8_failed 201 = .ok (.invokevirtual 547, 3) := by decide +kernel
theorem dX8_failed_204 : decode cX8_failed 204 = .ok (.goto 69, 3) := by decide +kernel
theorem dX8_failed_207 : decode cX8_failed 207 = .ok (.aload_n 2, 1) := by decide +kernel
theorem dX8_failed_208 : decode cX8_failed 208 = .ok (.lconst 0, 1) := by decide +kernel
theorem dX8_failed_209 : decode cX8_failed 209 = .ok (.putfield 633, 3) := by decide +kernel
theorem dX8_failed_212 : decode cX8_failed 212 = .ok (.aload_n 0, 1) := by decide +kernel
theorem dX8_failed_213 : decode cX8_failed 213 = .ok (.aload_n 2, 1) := by decide +kernel
theorem dX8_failed_214 : decode cX8_failed 214 = .ok (.aload_n 1, 1) := by decide +kernel
theorem dX8_failed_215 : decode cX8_failed 215 = .ok (.getfield 271, 3) := by decide +kernel
theorem dX8_failed_218 : decode cX8_failed 218 = .ok (.bipush 11, 2) := by decide +kernel
theorem dX8_failed_220 : decode cX8_failed 220 = .ok (.invokevirtual 639, 3) := by decide +kernel
theorem dX8_failed_223 : decode cX8_failed 223 = .ok (.pop, 1) := by decide +kernel
theorem dX8_failed_224 : decode cX8_failed 224 = .ok (.goto 49, 3) := by decide +kernel
theorem dX8_failed_227 : decode cX8_failed 227 = .ok (.aload_n 0, 1) := by decide +kernel
theorem dX8_failed_228 : decode cX8_failed 228 = .ok (.aload_n 1, 1) := by decide +kernel
theorem dX8_failed_229 : decode cX8_failed 229 = .ok (.aload_n 2, 1) := by decide +kernel
theorem dX8_failed_230 : decode cX8_failed 230 = .ok (.invokevirtual 665, 3) := by decide +kernel
theorem dX8_failed_233 : decode cX8_failed 233 = .ok (.goto 40, 3) := by decide +kernel
theorem dX8_failed_236 : decode cX8_failed 236 = .ok (.aload_n 0, 1) := by decide +kernel
theorem dX8_failed_237 : decode cX8_failed 237 = .ok (.aload_n 2, 1) := by decide +kernel
theorem dX8_failed_238 : decode cX8_failed 238 = .ok (.invokevirtual 662, 3) := by decide +kernel
theorem dX8_failed_241 : decode cX8_failed 241 = .ok (.goto 32, 3) := by decide +kernel
theorem dX8_failed_244 : decode cX8_failed 244 = .ok (.aload_n 0, 1) := by decide +kernel
theorem dX8_failed_245 : decode cX8_failed 245 = .ok (.aload_n 2, 1) := by decide +kernel
theorem dX8_failed_246 : decode cX8_failed 246 = .ok (.invokevirtual 668, 3) := by decide +kernel
theorem dX8_failed_249 : decode cX8_failed 249 = .ok (.goto 24, 3) := by decide +kernel
theorem dX8_failed_252 : decode cX8_failed 252 = .ok (.aload_n 0, 1) := by decide +kernel
theorem dX8_failed_253 : decode cX8_failed 253 = .ok (.iconst 0, 1) := by decide +kernel
theorem dX8_failed_254 : decode cX8_failed 254 = .ok (.invokevirtual 573, 3) := by decide +kernel
theorem dX8_failed_257 : decode cX8_failed 257 = .ok (.goto 16, 3) := by decide +kernel
theorem dX8_failed_260 : decode cX8_failed 260 = .ok (.aload_n 2, 1) := by decide +kernel
theorem dX8_failed_261 : decode cX8_failed 261 = .ok (.aload_n 1, 1) := by decide +kernel
theorem dX8_failed_262 : decode cX8_failed 262 = .ok (.getfield 576, 3) := by decide +kernel
theorem dX8_failed_265 : decode cX8_failed 265 = .ok (.putfield 551, 3) := by decide +kernel
theorem dX8_failed_268 : decode cX8_failed 268 = .ok (.aload_n 0, 1) := by decide +kernel
theorem dX8_failed_269 : decode cX8_failed 269 = .ok (.aload_n 2, 1) := by decide +kernel
theorem dX8_failed_270 : decode cX8_failed 270 = .ok (.invokevirtual 554, 3) := by decide +kernel
theorem dX8_failed_273 : decode cX8_failed 273 = .ok (.return_, 1) := by decide +kernel
abbrev vwCl : List vw_C := [(RJ0, TJ0, 4), (RJ4, TJ4, 4), (RJx4a65c, TJx4a65c, 3), (RX1, TX1, 4), (RX2, TX2, 15), (RX3, TX3, 21), (RX4, TX4, 14), (RX5, TX5, 13), (RX6, TX6, 11), (RX7, TX7, 23), (RX8, TX8, 21), (RX9, TX9, 4), (RX10, TX10, 19), (RX11, TX11, 11), (RX12, TX12, 11)]
