/-- a loop whose own number goes up by one: what holds at its head, with what it has made till then -/
theorem lp_up {p : Program} {l : Launch} {e : Env} {R : Room} {s : State} {m : MethodId} {args : Array Value} {below : List Frame} {meth : Method} {c : Code} {Q : State → Prop} {pc : Nat} {σ : Type} (I : Nat → σ → Heap → List Loc → Array Slot → Prop) (cf sf : Nat → Nat) {hi : Nat}
    (step : ∀ (k : Nat) (a : σ) (H : Heap) (locs : List Loc) (ls : Array Slot), k < hi → I k a H locs ls → (∀ (a' : σ) (H' : Heap) (locs' : List Loc) (ls' : Array Slot), I (k + 1) a' H' locs' ls' → W p l e R s m args below meth c H' locs' (cf (k + 1)) (sf (k + 1)) Q (F0 m pc ls' [])) → W p l e R s m args below meth c H locs (cf k) (sf k) Q (F0 m pc ls []))
    (exit : ∀ (a : σ) (H : Heap) (locs : List Loc) (ls : Array Slot), I hi a H locs ls → W p l e R s m args below meth c H locs (cf hi) (sf hi) Q (F0 m pc ls []))
    {k : Nat} (hk : k ≤ hi) {a : σ} {H : Heap} {locs : List Loc} {ls : Array Slot} (h : I k a H locs ls) : W p l e R s m args below meth c H locs (cf k) (sf k) Q (F0 m pc ls []) := by
  obtain ⟨n, hn⟩ : ∃ n, k + n = hi := ⟨hi - k, by omega⟩
  induction n generalizing k a H locs ls with
  | zero =>
    obtain rfl : k = hi := by omega
    exact exit a H locs ls h
  | succ n ih => exact step k a H locs ls (by omega) h (fun a' H' locs' ls' h' => ih (by omega) h' (by omega))
theorem sk_ldcwString {p : Program} {l : Launch} {e : Env} {R : Room} {s : State} {m : MethodId} {args : Array Value} {below : List Frame} {meth : Method} {c : Code} {T : State} {locs : List Loc} {cells slots : Nat}
    (X : Stand p l e R s m args below meth c T locs cells slots) (hexec : p.tables.exec = Jvm.exec) {own text : String} {index : Nat} {a : Addr} (hown : s.vm.findClass own = some m.cls)
    (hconst : (Cond.stringRef own index text).before args s = true) (hev : (Term.string own index).eval args s none [] s = some (.ref a)) {g : JFrame} (hg : g.method = m) (hdg : decode c.code g.pc = .ok (.ldc_w index, 3)) :
    ∀ target, Steps p.tables e below (T.setTop { g with pc := g.pc + 3, stack := .ref a :: g.stack }) target → Steps p.tables e below (T.setTop g) target := by
  obtain ⟨k, cf, i, a', hk, hcf, hcp, -, hr, hev'⟩ := Cond.stringRef_spec hown hconst
  cases hev.symm.trans hev'
  obtain ⟨k', hk', he⟩ := X.warmed.alike.2.2 _ _ hk
  have hr' : k'.resolved[index]? = some (some (.string a)) := by
    rcases X.warmed.entry hk hk' index with h | ⟨h, -⟩
    · rw [h]; exact hr
    · rw [hr] at h; cases h
  intro target hrest
  subst hg
  jvm_step X.here [hexec, hdg, ldc_w.wp_string (e := e) (s := T) (f := g) X.here.top hk' (by rw [he]; exact hcf) hcp hr']
  exact hrest
theorem va_ldcwS {p : Program} {l : Launch} {e : Env} {R : Room} {s : State} {m : MethodId} {args : Array Value} {below : List Frame} {meth : Method} {c : Code} {H : Heap} {locs : List Loc} {cells slots : Nat} {Q : State → Prop} {cc : ByteArray} {pc : Nat} {ls : Array Slot} {rest : List Value}
    (hexec : p.tables.exec = Jvm.exec) (hb : c.code = cc) {own tx : String} {index q : Nat} (hown : s.vm.findClass own = some m.cls) (hZ : vk_R own index tx q s) (hdg : decode cc pc = .ok (.ldc_w index, 3))
    (k : W p l e R s m args below meth c H locs cells slots Q (F0 m (pc + 3) ls (.ref q :: rest))) : W p l e R s m args below meth c H locs cells slots Q (F0 m pc ls rest) := by
  intro T hT X
  obtain ⟨t, a1, b1⟩ := k T hT X
  exact ⟨t, sk_ldcwString X hexec hown (text := tx) (a := q) hZ.1 hZ.2 (g := F0 m pc ls rest) rfl (by rw [hb]; exact hdg) t a1, b1⟩
/-- the text constants: how long each is, and its bytes -/
def sk_len : List Nat := [249, 0, 4, 5, 4, 3, 9, 4, 5, 5, 4, 6, 154, 79, 177, 6, 1, 1, 1, 1, 1, 3, 5, 6, 7, 1, 1, 3, 4, 5, 10, 7, 9]
def sk_b0 : List Int32 := [97, 110, 121, 32, 109, 97, 110, 121, 32, 117, 112, 116, 111, 32, 109, 97, 116, 99, 104, 32, 102, 105, 110, 100, 32, 98, 97, 108, 32, 116, 97, 98, 32, 109, 111, 118, 101, 32, 112, 111, 115, 32, 119, 114, 105, 116, 101, 32, 119, 114, 105, 116, 101, 115, 32, 115, 116, 111, 112, 32, 114, 101, 97, 100, 32, 105, 109, 97, 103, 101, 32, 116, 121, 112, 101, 32, 112, 114, 111, 99, 32, 99, 111, 112, 121, 32, 119, 104, 111, 108, 101, 32, 116, 101, 120, 116, 32, 115, 101, 116, 32, 110, 117, 109, 98, 101, 114, 32, 108, 105, 115, 116, 32, 103, 114, 111, 117, 112, 32, 116, 97, 98, 108, 101, 32, 112, 117, 116, 32, 112, 117, 115, 104, 32, 103, 101, 116, 32, 112, 117, 108, 108, 32, 105, 110, 115, 101, 114, 116, 32, 100, 101, 108, 101, 116, 101, 32, 109, 101, 109, 98, 101, 114, 32, 107, 101, 121, 32, 115, 111, 114, 116, 32, 108, 101, 102, 116, 32, 114, 105, 103, 104, 116, 32, 99, 101, 110, 116, 101, 114, 32, 116, 114, 105, 109, 32, 114, 101, 112, 108, 32, 114, 101, 118, 101, 114, 115, 101, 32, 109, 97, 112, 32, 99, 104, 97, 114, 32, 111, 114, 100, 32, 115, 101, 113, 32, 97, 98, 115, 32, 109, 105, 110, 32, 109, 97, 120, 32, 103, 99, 100, 32, 100, 105, 103, 105, 116, 115, 32]
def sk_b1 : List Int32 := []
def sk_b2 : List Int32 := [110, 117, 108, 108]
def sk_b3 : List Int32 := [119, 104, 111, 108, 101]
def sk_b4 : List Int32 := [116, 101, 120, 116]
def sk_b5 : List Int32 := [115, 101, 116]
def sk_b6 : List Int32 := [112, 114, 111, 99, 101, 100, 117, 114, 101]
def sk_b7 : List Int32 := [108, 105, 115, 116]
def sk_b8 : List Int32 := [103, 114, 111, 117, 112]
def sk_b9 : List Int32 := [116, 97, 98, 108, 101]
def sk_b10 : List Int32 := [112, 97, 114, 116]
def sk_b11 : List Int32 := [114, 101, 99, 111, 114, 100]
def sk_b12 : List Int32 := [98, 114, 101, 97, 107, 32, 98, 121, 32, 99, 97, 115, 101, 32, 99, 114, 101, 97, 116, 101, 32, 100, 101, 102, 97, 117, 108, 116, 32, 100, 111, 32, 101, 108, 115, 101, 32, 101, 110, 100, 32, 101, 118, 101, 114, 121, 32, 102, 97, 105, 108, 32, 103, 108, 111, 98, 97, 108, 32, 105, 102, 32, 105, 110, 105, 116, 105, 97, 108, 32, 108, 111, 99, 97, 108, 32, 110, 101, 120, 116, 32, 110, 111, 116, 32, 111, 102, 32, 112, 114, 111, 99, 101, 100, 117, 114, 101, 32, 114, 101, 99, 111, 114, 100, 32, 114, 101, 112, 101, 97, 116, 32, 114, 101, 116, 117, 114, 110, 32, 115, 116, 97, 116, 105, 99, 32, 115, 117, 115, 112, 101, 110, 100, 32, 116, 104, 101, 110, 32, 116, 111, 32, 117, 110, 116, 105, 108, 32, 119, 104, 105, 108, 101, 32]
def sk_b13 : List Int32 := [110, 117, 108, 108, 32, 102, 97, 105, 108, 32, 115, 117, 98, 106, 101, 99, 116, 32, 112, 111, 115, 32, 114, 97, 110, 100, 111, 109, 32, 101, 114, 114, 111, 114, 32, 110, 117, 109, 98, 101, 114, 32, 118, 97, 108, 117, 101, 32, 108, 101, 116, 116, 101, 114, 115, 32, 100, 105, 103, 105, 116, 115, 32, 108, 111, 119, 101, 114, 32, 117, 112, 112, 101, 114, 32, 97, 108, 108, 32]
def sk_b14 : List Int32 := [40, 32, 41, 32, 91, 32, 93, 32, 123, 32, 125, 32, 44, 32, 59, 32, 46, 32, 58, 32, 43, 58, 32, 45, 58, 32, 38, 32, 63, 32, 58, 61, 32, 60, 45, 32, 58, 61, 58, 32, 60, 45, 62, 32, 124, 32, 60, 32, 60, 61, 32, 61, 32, 62, 61, 32, 62, 32, 126, 61, 32, 60, 60, 32, 60, 60, 61, 32, 61, 61, 32, 62, 62, 61, 32, 62, 62, 32, 126, 61, 61, 32, 61, 61, 61, 32, 126, 61, 61, 61, 32, 124, 124, 32, 124, 124, 124, 32, 43, 32, 45, 32, 43, 43, 32, 45, 45, 32, 42, 32, 47, 32, 37, 32, 42, 42, 32, 94, 32, 92, 32, 33, 32, 64, 32, 126, 32, 43, 58, 61, 32, 45, 58, 61, 32, 42, 58, 61, 32, 47, 58, 61, 32, 37, 58, 61, 32, 94, 58, 61, 32, 43, 43, 58, 61, 32, 45, 45, 58, 61, 32, 42, 42, 58, 61, 32, 124, 124, 58, 61, 32, 124, 124, 124, 58, 61, 32]
def sk_b15 : List Int32 := [103, 108, 111, 98, 97, 108]
def sk_b16 : List Int32 := [44]
def sk_b17 : List Int32 := [40]
def sk_b18 : List Int32 := [91]
def sk_b19 : List Int32 := [93]
def sk_b20 : List Int32 := [41]
def sk_b21 : List Int32 := [32, 32, 32]
def sk_b22 : List Int32 := [108, 111, 99, 97, 108]
def sk_b23 : List Int32 := [115, 116, 97, 116, 105, 99]
def sk_b24 : List Int32 := [105, 110, 105, 116, 105, 97, 108]
def sk_b25 : List Int32 := [46]
def sk_b26 : List Int32 := [38]
def sk_b27 : List Int32 := [101, 110, 100]
def sk_b28 : List Int32 := [109, 97, 105, 110]
def sk_b29 : List Int32 := [38, 110, 117, 108, 108]
def sk_b30 : List Int32 := [112, 114, 111, 99, 101, 100, 117, 114, 101, 32]
def sk_b31 : List Int32 := [114, 101, 99, 111, 114, 100, 32]
def sk_b32 : List Int32 := [98, 117, 105, 108, 116, 45, 105, 110, 32]
def sk_byt : List (List Int32) := [sk_b0, sk_b1, sk_b2, sk_b3, sk_b4, sk_b5, sk_b6, sk_b7, sk_b8, sk_b9, sk_b10, sk_b11, sk_b12, sk_b13, sk_b14, sk_b15, sk_b16, sk_b17, sk_b18, sk_b19, sk_b20, sk_b21, sk_b22, sk_b23, sk_b24, sk_b25, sk_b26, sk_b27, sk_b28, sk_b29, sk_b30, sk_b31, sk_b32]
/-- class, place in its pool, text, which text -/
def sk_tab : List (String × Nat × String × Nat) := [("GoalHouse$Kit", 79, "any many upto match find bal tab move pos write writes stop read image type proc copy whole text set number list group table put push get pull insert delete member key sort left right center trim repl reverse map char ord seq abs min max gcd digits ", 0), ("java/lang/StringLatin1", 151, "", 1), ("java/lang/StringUTF16", 295, "", 1), ("GoalHouse", 206, "", 1), ("GoalHouse$Kit", 366, "null", 2), ("GoalHouse$Kit", 368, "whole", 3), ("GoalHouse$Kit", 369, "text", 4), ("GoalHouse$Kit", 370, "set", 5), ("GoalHouse$Kit", 372, "procedure", 6), ("GoalHouse$Kit", 374, "list", 7), ("GoalHouse$Kit", 376, "group", 8), ("GoalHouse$Kit", 378, "table", 9), ("GoalHouse$Kit", 380, "part", 10), ("GoalHouse$Kit", 382, "record", 11), ("GoalHouse$Reader", 126, "break by case create default do else end every fail global if initial local next not of procedure record repeat return static suspend then to until while ", 12), ("java/lang/String", 7, "", 1), ("GoalHouse$Reader", 141, "null fail subject pos random error number value letters digits lower upper all ", 13), ("GoalHouse$Reader", 143, "( ) [ ] { } , ; . : +: -: & ? := <- :=: <-> | < <= = >= > ~= << <<= == >>= >> ~== === ~=== || ||| + - ++ -- * / % ** ^ \\ ! @ ~ +:= -:= *:= /:= %:= ^:= ++:= --:= **:= ||:= |||:= ", 14), ("GoalHouse$Reader", 249, "", 1), ("GoalHouse$Program", 130, "global", 15), ("GoalHouse$Program", 128, ",", 16), ("GoalHouse", 95, "record", 11), ("GoalHouse$Program", 142, "(", 17), ("GoalHouse$Program", 147, "[", 18), ("GoalHouse$Program", 149, "]", 19), ("GoalHouse$Program", 151, ")", 20), ("GoalHouse$Program", 153, "procedure", 6), ("GoalHouse$Program", 197, "   ", 21), ("GoalHouse$Program", 168, "local", 22), ("GoalHouse$Program", 173, "static", 23), ("GoalHouse$Program", 179, "initial", 24), ("GoalHouse$Program", 218, "break by case create default do else end every fail global if initial local next not of procedure record repeat return static suspend then to until while ", 12), ("GoalHouse$Program", 224, "( ) [ ] { } , ; . : +: -: & ? := <- :=: <-> | < <= = >= > ~= << <<= == >>= >> ~== === ~=== || ||| + - ++ -- * / % ** ^ \\ ! @ ~ +:= -:= *:= /:= %:= ^:= ++:= --:= **:= ||:= |||:= ", 14), ("GoalHouse$Program", 244, "", 1), ("GoalHouse$Program", 260, ".", 25), ("GoalHouse$Program", 265, "&", 26), ("GoalHouse$Program", 267, "null fail subject pos random error number value letters digits lower upper all ", 13), ("GoalHouse$Program", 195, "end", 27), ("GoalHouse$Program", 114, "main", 28), ("GoalHouse$Program", 94, "any many upto match find bal tab move pos write writes stop read image type proc copy whole text set number list group table put push get pull insert delete member key sort left right center trim repl reverse map char ord seq abs min max gcd digits ", 0), ("GoalHouse$Kit", 335, "&null", 29), ("GoalHouse$Kit", 342, "procedure ", 30), ("GoalHouse$Kit", 344, "record ", 31), ("GoalHouse$Kit", 346, "built-in ", 32)]
/-- members of nest mates, and casts -/
def sk_nest : List Cond := [.methodLinkNest "GoalHouse$Kit" 81 ⟨"GoalHouse", "wordOf", "(Ljava/lang/String;I)Ljava/lang/String;"⟩ "GoalHouse", .methodLinkNest "GoalHouse" 37 ⟨"GoalHouse$Reader", "<init>", "()V"⟩ "GoalHouse", .methodLinkNest "GoalHouse" 56 ⟨"GoalHouse$Program", "<init>", "()V"⟩ "GoalHouse", .methodLinkNest "GoalHouse$Reader" 128 ⟨"GoalHouse", "wordIn", "(Ljava/lang/String;[BII)I"⟩ "GoalHouse", .methodLinkNest "GoalHouse$Program" 220 ⟨"GoalHouse", "wordOf", "(Ljava/lang/String;I)Ljava/lang/String;"⟩ "GoalHouse", .methodLinkNest "GoalHouse$Program" 110 ⟨"GoalHouse", "sameBytes", "(Ljava/lang/String;I[BII)Z"⟩ "GoalHouse", .methodLinkNest "GoalHouse$Program" 103 ⟨"GoalHouse", "wordIn", "(Ljava/lang/String;[BII)I"⟩ "GoalHouse", .methodLinkNest "GoalHouse$Acts" 307 ⟨"GoalHouse$Run", "inner", "(LGoalHouse$Frame;LGoalHouse$Node;I)LGoalHouse$Frame;"⟩ "GoalHouse", .fieldLinkNest "GoalHouse$Reader" 441 "GoalHouse" "RANKS" "[I" "GoalHouse", .fieldLinkNest "GoalHouse$Acts" 325 "GoalHouse" "PLAIN" "[I" "GoalHouse", .castable "GoalHouse" "java/lang/String", .castable "GoalHouse$Kit" "java/lang/String", .castable "GoalHouse$Val" "java/lang/String", .castable "GoalHouse$Thing" "java/lang/String", .castable "GoalHouse$Proc" "java/lang/String", .castable "java/util/ArrayList" "java/lang/String", .castable "GoalHouse$Reader" "java/lang/String", .castable "GoalHouse$Program" "java/lang/String", .castable "java/lang/StringBuilder" "java/lang/String", .castable "GoalHouse$Node" "java/lang/String", .castable "GoalHouse$Run" "java/lang/String", .castable "GoalHouse$Scan" "java/lang/String", .castable "GoalHouse$Frame" "java/lang/String", .castable "GoalHouse$Call" "java/lang/String", .castable "java/lang/Integer" "java/lang/String", .castable "[LGoalHouse$Program;" "java/lang/String", .castable "[LGoalHouse$Run;" "java/lang/String", .castable "[B" "java/lang/String", .castable "[LGoalHouse$Val;" "java/lang/String", .castable "[LGoalHouse$Proc;" "java/lang/String", .castable "[I" "java/lang/String", .castable "[J" "java/lang/String", .castable "[LGoalHouse$Node;" "java/lang/String", .castable "[Ljava/lang/Object;" "java/lang/String", .castable "[C" "java/lang/String", .castable "[Z" "java/lang/String", .castable "GoalHouse" "GoalHouse$Program", .castable "GoalHouse$Kit" "GoalHouse$Program", .castable "GoalHouse$Val" "GoalHouse$Program", .castable "GoalHouse$Thing" "GoalHouse$Program", .castable "java/lang/String" "GoalHouse$Program", .castable "GoalHouse$Proc" "GoalHouse$Program", .castable "java/util/ArrayList" "GoalHouse$Program", .castable "GoalHouse$Reader" "GoalHouse$Program", .castable "java/lang/StringBuilder" "GoalHouse$Program", .castable "GoalHouse$Node" "GoalHouse$Program", .castable "GoalHouse$Run" "GoalHouse$Program", .castable "GoalHouse$Scan" "GoalHouse$Program", .castable "GoalHouse$Frame" "GoalHouse$Program", .castable "GoalHouse$Call" "GoalHouse$Program", .castable "GoalHouse" "GoalHouse$Run", .castable "GoalHouse$Kit" "GoalHouse$Run", .castable "GoalHouse$Val" "GoalHouse$Run", .castable "GoalHouse$Thing" "GoalHouse$Run", .castable "java/lang/String" "GoalHouse$Run", .castable "GoalHouse$Proc" "GoalHouse$Run", .castable "java/util/ArrayList" "GoalHouse$Run", .castable "GoalHouse$Reader" "GoalHouse$Run", .castable "GoalHouse$Program" "GoalHouse$Run", .castable "java/lang/StringBuilder" "GoalHouse$Run", .castable "GoalHouse$Node" "GoalHouse$Run", .castable "GoalHouse$Scan" "GoalHouse$Run", .castable "GoalHouse$Frame" "GoalHouse$Run", .castable "GoalHouse$Call" "GoalHouse$Run", .castable "GoalHouse" "GoalHouse$Val", .castable "GoalHouse$Kit" "GoalHouse$Val", .castable "GoalHouse$Thing" "GoalHouse$Val", .castable "java/lang/String" "GoalHouse$Val", .castable "GoalHouse$Proc" "GoalHouse$Val", .castable "java/util/ArrayList" "GoalHouse$Val", .castable "GoalHouse$Reader" "GoalHouse$Val", .castable "GoalHouse$Program" "GoalHouse$Val", .castable "java/lang/StringBuilder" "GoalHouse$Val", .castable "GoalHouse$Node" "GoalHouse$Val", .castable "GoalHouse$Run" "GoalHouse$Val", .castable "GoalHouse$Scan" "GoalHouse$Val", .castable "GoalHouse$Frame" "GoalHouse$Val", .castable "GoalHouse$Call" "GoalHouse$Val", .castable "GoalHouse" "GoalHouse$Proc", .castable "GoalHouse$Kit" "GoalHouse$Proc", .castable "GoalHouse$Val" "GoalHouse$Proc", .castable "GoalHouse$Thing" "GoalHouse$Proc", .castable "java/lang/String" "GoalHouse$Proc", .castable "java/util/ArrayList" "GoalHouse$Proc", .castable "GoalHouse$Reader" "GoalHouse$Proc", .castable "GoalHouse$Program" "GoalHouse$Proc", .castable "java/lang/StringBuilder" "GoalHouse$Proc", .castable "GoalHouse$Node" "GoalHouse$Proc", .castable "GoalHouse$Run" "GoalHouse$Proc", .castable "GoalHouse$Scan" "GoalHouse$Proc", .castable "GoalHouse$Frame" "GoalHouse$Proc", .castable "GoalHouse$Call" "GoalHouse$Proc", .castable "GoalHouse" "GoalHouse$Node", .castable "GoalHouse$Kit" "GoalHouse$Node", .castable "GoalHouse$Val" "GoalHouse$Node", .castable "GoalHouse$Thing" "GoalHouse$Node", .castable "java/lang/String" "GoalHouse$Node", .castable "GoalHouse$Proc" "GoalHouse$Node", .castable "java/util/ArrayList" "GoalHouse$Node", .castable "GoalHouse$Reader" "GoalHouse$Node", .castable "GoalHouse$Program" "GoalHouse$Node", .castable "java/lang/StringBuilder" "GoalHouse$Node", .castable "GoalHouse$Run" "GoalHouse$Node", .castable "GoalHouse$Scan" "GoalHouse$Node", .castable "GoalHouse$Frame" "GoalHouse$Node", .castable "GoalHouse$Call" "GoalHouse$Node", .castable "[B" "java/lang/Cloneable", .castable "[I" "java/lang/Cloneable", .castable "[J" "java/lang/Cloneable", .castable "GoalHouse$Program" "java/lang/Object", .castable "GoalHouse$Run" "java/lang/Object", .castable "GoalHouse$Val" "java/lang/Object", .castable "GoalHouse$Proc" "java/lang/Object", .castable "GoalHouse$Node" "java/lang/Object", .castable "GoalHouse" "java/lang/Object", .castable "GoalHouse$Kit" "java/lang/Object", .castable "GoalHouse$Thing" "java/lang/Object", .castable "java/lang/String" "java/lang/Object", .castable "java/util/ArrayList" "java/lang/Object", .castable "GoalHouse$Reader" "java/lang/Object", .castable "java/lang/StringBuilder" "java/lang/Object", .castable "GoalHouse$Scan" "java/lang/Object", .castable "GoalHouse$Frame" "java/lang/Object", .castable "GoalHouse$Call" "java/lang/Object", .castable "[LGoalHouse$Program;" "java/lang/Object", .castable "[LGoalHouse$Run;" "java/lang/Object", .castable "[B" "java/lang/Object", .castable "[LGoalHouse$Val;" "java/lang/Object", .castable "[LGoalHouse$Proc;" "java/lang/Object", .castable "[I" "java/lang/Object", .castable "[J" "java/lang/Object", .castable "[LGoalHouse$Node;" "java/lang/Object", .castable "[Ljava/lang/Object;" "java/lang/Object", .castable "[C" "java/lang/Object", .castable "[Z" "java/lang/Object", .arrayOver (.object "GoalHouse$Program"), .arrayOver (.object "GoalHouse$Run"), .arrayOver (.object "GoalHouse$Val"), .arrayOver (.object "GoalHouse$Proc"), .arrayOver (.object "GoalHouse$Node"), .arrayOver (.object "java/lang/Object")]
def sk_kind : Cond → Bool
  | .fieldLinkNest .. => true
  | .methodLinkNest .. => true
  | .castable .. => true
  | .arrayOver (.object _) => true
  | _ => false
theorem sk_kinds : sk_nest.all sk_kind = true := by decide +kernel
theorem sk_warm {w : Cond} (hk : sk_kind w = true) {s U : State} (hW : s.WarmedH U.vm) (hZ : va_Nw w s) : va_Nw w U := by
  cases w <;> first | exact va_Nw.warmF hW hZ | exact va_Nw.warmM hW hZ | exact va_Nw.warmC hW hZ | cases hk | (rename_i ty; cases ty <;> first | exact Cond.arrayOver_alike hW.alike hZ | cases hk)
/-- what stands around the system: statics and what they hold, text constants, outside of A -/
abbrev SR (z : Nat → Nat) (A : Nat → Prop) (U : State) (H : Heap) : Prop :=
  va_Z "java/util/ArrayList" "DEFAULTCAPACITY_EMPTY_ELEMENTDATA" "[Ljava/lang/Object;" (.ref (z 0)) A U H ∧
  va_T (.object "java/lang/Object") (z 0) 0 (fun _ => .null) A U H ∧
  va_Z "java/lang/String" "COMPACT_STRINGS" "Z" (.int 1) A U H ∧
  va_Z "GoalHouse" "RANKS" "[I" (.ref (z 1)) A U H ∧
  va_Z "GoalHouse" "PLAIN" "[I" (.ref (z 2)) A U H ∧
  va_Z "jdk/internal/util/Preconditions" "SIOOBE_FORMATTER" "Ljava/util/function/BiFunction;" (.ref (z 3)) A U H ∧
  vk_S 33 sk_len sk_byt (fun i => z (100 + 2 * i)) (fun i => z (101 + 2 * i)) A U H ∧
  (∀ q ∈ sk_tab, vk_R q.1 q.2.1 q.2.2.1 (z (100 + 2 * q.2.2.2)) U) ∧
  ∀ w ∈ sk_nest, va_Nw w U
theorem SR.moved {z : Nat → Nat} {A : Nat → Prop} {u U : State} {H : Heap} (hW : u.WarmedH U.vm) (h : SR z A u H) : SR z A U H := ⟨va_Z.moved hW.alike h.1, va_T.moved hW.alike h.2.1, va_Z.moved hW.alike h.2.2.1, va_Z.moved hW.alike h.2.2.2.1, va_Z.moved hW.alike h.2.2.2.2.1, va_Z.moved hW.alike h.2.2.2.2.2.1, vk_S.moved hW.alike h.2.2.2.2.2.2.1, fun q hq => vk_R.warm hW (h.2.2.2.2.2.2.2.1 q hq), fun w hw => sk_warm (List.all_eq_true.mp sk_kinds w hw) hW (h.2.2.2.2.2.2.2.2 w hw)⟩
theorem SR.kept {z : Nat → Nat} {A : Nat → Prop} {U : State} {H H1 : Heap} (h : SR z A U H) (hq : ∀ a : Nat, a < H.size → ¬ A a → H1[a]? = H[a]?) : SR z A U H1 := ⟨va_Z.kept h.1 hq, va_T.kept h.2.1 hq, va_Z.kept h.2.2.1 hq, va_Z.kept h.2.2.2.1 hq, va_Z.kept h.2.2.2.2.1 hq, va_Z.kept h.2.2.2.2.2.1 hq, vk_S.kept h.2.2.2.2.2.2.1 hq, h.2.2.2.2.2.2.2⟩
theorem SR.narrow {z : Nat → Nat} {A B : Nat → Prop} {U : State} {H : Heap} (h : SR z A U H) (hAB : ∀ q, B q → A q) : SR z B U H := ⟨va_Z.narrow h.1 hAB, va_T.narrow h.2.1 hAB, va_Z.narrow h.2.2.1 hAB, va_Z.narrow h.2.2.2.1 hAB, va_Z.narrow h.2.2.2.2.1 hAB, va_Z.narrow h.2.2.2.2.2.1 hAB, vk_S.narrow h.2.2.2.2.2.2.1 hAB, h.2.2.2.2.2.2.2⟩
theorem ni_ne {a b : Nat} (h : a < b) (hb : b < 2147483648) : ¬ nI a = nI b := fun e => by
  have q := nI_lt h hb
  rw [e] at q
  exact absurd q (nI_nlt (Nat.le_refl b) hb)
theorem ni_inj {a b : Nat} (ha : a < 2147483648) (hb : b < 2147483648) (h : nI a = nI b) : a = b := by
  rcases Nat.lt_trichotomy a b with q | q | q
  · exact absurd h (ni_ne q hb)
  · exact q
  · exact absurd h.symm (ni_ne q ha)
theorem mn_y {a b : Nat} (h : b ≤ a) (ha : a < 2147483648) : (if nI b < nI a then nI b else nI a) = nI b := by
  by_cases hc : nI b < nI a
  · rw [if_pos hc]
  · rw [if_neg hc]
    rcases Nat.lt_or_ge b a with q | q
    · exact absurd (nI_lt q ha) hc
    · rw [show a = b by omega]
theorem mn_x {a b : Nat} (h : a ≤ b) (hb : b < 2147483648) : (if nI b < nI a then nI b else nI a) = nI a := by
  rw [if_neg (nI_nlt h hb)]
theorem mx_x {a b : Nat} (h : b ≤ a) (ha : a < 2147483648) : (if nI a < nI b then nI b else nI a) = nI a := by
  rw [if_neg (nI_nlt h ha)]
theorem mx_y {a b : Nat} (h : a ≤ b) (hb : b < 2147483648) : (if nI a < nI b then nI b else nI a) = nI b := by
  by_cases hc : nI a < nI b
  · rw [if_pos hc]
  · rw [if_neg hc]
    rcases Nat.lt_or_ge a b with q | q
    · exact absurd (nI_lt q hb) hc
    · rw [show a = b by omega]
theorem sk_fit (l : List Int32) (h : l.all (fun x => fits .byte (.int x)) = true) (j : Nat) : fits .byte (.int (l.getD j 0)) = true := by
  by_cases hj : j < l.length
  · rw [List.getD_eq_getElem?_getD, List.getElem?_eq_getElem hj]
    exact List.all_eq_true.mp h _ (List.getElem_mem hj)
  · rw [List.getD_eq_getElem?_getD, List.getElem?_eq_none (by omega)]
    rfl
/-- whether the bytes of a list from st on are those of a row from fr on -/
def sbI (L : List Int32) (f : Nat → Int32) (st fr n : Nat) : Int32 := if ∀ t, t < n → L.getD (st + t) 0 = f (fr + t) &&& 255 then 1 else 0
theorem sbI_or (L : List Int32) (f : Nat → Int32) (st fr n : Nat) : sbI L f st fr n = 0 ∨ sbI L f st fr n = 1 := by
  unfold sbI
  split
  · exact Or.inr rfl
  · exact Or.inl rfl
/-- the number of the word in a list that these bytes are: r places are left, at i, behind id words, the last one began at st -/
def wlk (L : List Int32) (f : Nat → Int32) (fr n : Nat) : Nat → Nat → Nat → Nat → Int32
  | 0, _, _, _ => -1
  | r + 1, i, id, st => if L.getD i 0 = 32 then (if i - st = n ∧ sbI L f st fr n = 1 then nI id else wlk L f fr n r (i + 1) (id + 1) (i + 1)) else wlk L f fr n r (i + 1) id st
def wl (L : List Int32) (f : Nat → Int32) (fr n : Nat) : Int32 := wlk L f fr n L.length 0 0 0
theorem wlk_hit {L : List Int32} {f : Nat → Int32} {fr n r i id st : Nat} {w : Int32} (hv : wlk L f fr n (r + 1) i id st = w) (h : L.getD i 0 = 32) (hm : i - st = n) (hs : ¬ sbI L f st fr n = 0) : nI id = w := by
  rw [← hv, wlk, if_pos h, if_pos ⟨hm, (sbI_or L f st fr n).resolve_left hs⟩]
theorem wlk_len {L : List Int32} {f : Nat → Int32} {fr n r i id st : Nat} {w : Int32} (hv : wlk L f fr n (r + 1) i id st = w) (h : L.getD i 0 = 32) (hm : ¬ nI (i - st) = nI n) : wlk L f fr n r (i + 1) (id + 1) (i + 1) = w := by
  rw [wlk, if_pos h, if_neg (fun q => hm (by rw [q.1]))] at hv
  exact hv
theorem wlk_not {L : List Int32} {f : Nat → Int32} {fr n r i id st : Nat} {w : Int32} (hv : wlk L f fr n (r + 1) i id st = w) (h : L.getD i 0 = 32) (hs : sbI L f st fr n = 0) : wlk L f fr n r (i + 1) (id + 1) (i + 1) = w := by
  rw [wlk, if_pos h, if_neg (fun q => absurd (hs.symm.trans q.2) (by decide))] at hv
  exact hv
theorem wlk_go {L : List Int32} {f : Nat → Int32} {fr n r i id st : Nat} {w : Int32} (hv : wlk L f fr n (r + 1) i id st = w) (h : ¬ L.getD i 0 = 32) : wlk L f fr n r (i + 1) id st = w := by
  rw [wlk, if_neg h] at hv
  exact hv
/-- the bytes of a text constant as chars -/
theorem ch_fit (l : List Int32) (h : l.all (fun x => decide (((x &&& 255).toUInt32 % 65536).toInt32 = x)) = true) (j : Nat) : (((l.getD j 0) &&& 255).toUInt32 % 65536).toInt32 = l.getD j 0 := by
  by_cases hj : j < l.length
  · rw [List.getD_eq_getElem?_getD, List.getElem?_eq_getElem hj]
    exact of_decide_eq_true (List.all_eq_true.mp h _ (List.getElem_mem hj))
  · rw [List.getD_eq_getElem?_getD, List.getElem?_eq_none (by omega)]
    rfl
theorem ch_nar (l : List Int32) (h : l.all (fun x => decide ((x.toUInt32 % 65536).toInt32 = x)) = true) (j : Nat) : narrow FieldType.char (Value.int (l.getD j 0)) = Value.int (l.getD j 0) := by
  have q : ((l.getD j 0).toUInt32 % 65536).toInt32 = l.getD j 0 := by
    by_cases hj : j < l.length
    · rw [List.getD_eq_getElem?_getD, List.getElem?_eq_getElem hj]
      exact of_decide_eq_true (List.all_eq_true.mp h _ (List.getElem_mem hj))
    · rw [List.getD_eq_getElem?_getD, List.getElem?_eq_none (by omega)]
      rfl
  rw [← q]
  exact pk_nc _
/-- the same from some of the bytes: none where they don't decide it -/
def wlB (L : List Int32) (B : List (Nat × Int32)) (n : Nat) : Nat → Nat → Nat → Nat → Option Int32
  | 0, _, _, _ => some (-1)
  | r + 1, i, id, st => if L.getD i 0 = 32 then
      (if i - st = n then
        (if B.any (fun q => decide (q.1 < n) && decide (¬ L.getD (st + q.1) 0 = q.2 &&& 255)) then wlB L B n r (i + 1) (id + 1) (i + 1)
          else if (List.range n).all (fun t => B.any (fun q => decide (q.1 = t) && decide (L.getD (st + t) 0 = q.2 &&& 255))) then some (nI id) else none)
        else wlB L B n r (i + 1) (id + 1) (i + 1))
      else wlB L B n r (i + 1) id st
theorem wlB_wlk {L : List Int32} {B : List (Nat × Int32)} {f : Nat → Int32} {fr n : Nat} (hB : ∀ q ∈ B, f (fr + q.1) = q.2) : ∀ (r i id st : Nat) (w : Int32), wlB L B n r i id st = some w → wlk L f fr n r i id st = w := by
  intro r
  induction r with
  | zero => intro i id st w h; exact Option.some.inj h
  | succ r ih =>
    intro i id st w h
    rw [wlB] at h
    rw [wlk]
    by_cases h1 : L.getD i 0 = 32
    · rw [if_pos h1] at h ⊢
      by_cases h2 : i - st = n
      · rw [if_pos h2] at h
        by_cases h3 : (B.any (fun q => decide (q.1 < n) && decide (¬ L.getD (st + q.1) 0 = q.2 &&& 255))) = true
        · rw [if_pos h3] at h
          obtain ⟨q, hq, h4⟩ := List.any_eq_true.mp h3
          rw [Bool.and_eq_true, decide_eq_true_iff, decide_eq_true_iff] at h4
          have h5 : ¬ sbI L f st fr n = 1 := by
            unfold sbI
            rw [if_neg (fun z => h4.2 (by rw [← hB q hq]; exact z q.1 h4.1))]
            decide
          rw [if_neg (fun z => h5 z.2)]
          exact ih _ _ _ _ h
        · rw [if_neg h3] at h
          by_cases h4 : ((List.range n).all (fun t => B.any (fun q => decide (q.1 = t) && decide (L.getD (st + t) 0 = q.2 &&& 255)))) = true
          · rw [if_pos h4] at h
            have h5 : sbI L f st fr n = 1 := by
              unfold sbI
              rw [if_pos]
              intro t ht
              obtain ⟨q, hq, h6⟩ := List.any_eq_true.mp (List.all_eq_true.mp h4 t (List.mem_range.mpr ht))
              rw [Bool.and_eq_true, decide_eq_true_iff, decide_eq_true_iff] at h6
              rw [h6.2, ← hB q hq, h6.1]
            rw [if_pos ⟨h2, h5⟩]
            exact Option.some.inj h
          · rw [if_neg h4] at h
            cases h
      · rw [if_neg h2] at h
        rw [if_neg (fun z => h2 z.1)]
        exact ih _ _ _ _ h
    · rw [if_neg h1] at h ⊢
      exact ih _ _ _ _ h
theorem wl_of {L : List Int32} {B : List (Nat × Int32)} {f : Nat → Int32} {fr n : Nat} {w : Int32} (hB : ∀ q ∈ B, f (fr + q.1) = q.2) (h : wlB L B n L.length 0 0 0 = some w) : wl L f fr n = w := wlB_wlk hB _ _ _ _ _ h
theorem wB_n {f : Nat → Int32} {fr : Nat} : ∀ q ∈ ([] : List (Nat × Int32)), f (fr + q.1) = q.2 := fun _ h => nomatch h
theorem wB_c {f : Nat → Int32} {fr t : Nat} {v : Int32} {B : List (Nat × Int32)} (h : f (fr + t) = v) (hB : ∀ q ∈ B, f (fr + q.1) = q.2) : ∀ q ∈ (t, v) :: B, f (fr + q.1) = q.2 := fun q hq => (List.mem_cons.mp hq).elim (fun e => by rw [e]; exact h) (hB q)
theorem sk_outS {N : Nat} {len : List Nat} {byt : List (List Int32)} {aK aV : Nat → Nat} {A : Nat → Prop} {U : State} {H : Heap} (h : vk_S N len byt aK aV A U H) {i : Nat} (hi : i < N) : ¬ A (aK i) := by
  obtain ⟨_, _, _, _, q⟩ := (h.1 i hi).1
  exact q
