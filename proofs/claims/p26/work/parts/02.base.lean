/-- a loop whose own number goes up by one: what holds at its head, with what it has made till then -/
theorem lp_up {p : Program} {l : Launch} {e : Env} {R : Room} {s : State} {m : MethodId} {args : Array Value} {below : List Frame} {meth : Method} {c : Code} {Q : State → Prop} {pc : Nat} {σ : Type} (I : Nat → σ → Heap → List Loc → Array Slot → Prop) (cf sf : Nat → Nat) {hi : Nat}
    (step : ∀ (k : Nat) (a : σ) (H : Heap) (locs : List Loc) (ls : Array Slot), k < hi → I k a H locs ls → (∀ (a' : σ) (H' : Heap) (locs' : List Loc) (ls' : Array Slot), I (k + 1) a' H' locs' ls' → W p l e R s m args below meth c H' locs' (cf (k + 1)) (sf (k + 1)) Q (F0 m pc ls' [])) → W p l e R s m args below meth c H locs (cf k) (sf k) Q (F0 m pc ls []))
    (exit : ∀ (a : σ) (H : Heap) (locs : List Loc) (ls : Array Slot), I hi a H locs ls → W p l e R s m args below meth c H locs (cf hi) (sf hi) Q (F0 m pc ls []))
    {k : Nat} (hk : k ≤ hi) {a : σ} {H : Heap} {locs : List Loc} {ls : Array Slot} (h : I k a H locs ls) : W p l e R s m args below meth c H locs (cf k) (sf k) Q (F0 m pc ls []) := by
  obtain ⟨n, hn⟩ : ∃ n, k + n = hi := ⟨hi - k, by omega⟩
  induction n generalizing k a H locs ls with
  | zero =>
    obtain rfl : k = hi := by omega
    exact exit a H locs ls h
  | succ n ih => exact step k a H locs ls (by omega) h (fun a' H' locs' ls' h' => ih (by omega) h' (by omega))
/-- the text constants: how long each is, and its bytes -/
def sk_len : List Nat := [249, 0, 154, 79, 177, 6, 1, 6, 1, 1, 1, 1, 9, 3, 5, 6, 7, 1, 1, 3, 4, 5, 10, 7, 9, 4, 5, 5, 4, 4, 5, 4, 3]
def sk_b0 : List Int32 := [97, 110, 121, 32, 109, 97, 110, 121, 32, 117, 112, 116, 111, 32, 109, 97, 116, 99, 104, 32, 102, 105, 110, 100, 32, 98, 97, 108, 32, 116, 97, 98, 32, 109, 111, 118, 101, 32, 112, 111, 115, 32, 119, 114, 105, 116, 101, 32, 119, 114, 105, 116, 101, 115, 32, 115, 116, 111, 112, 32, 114, 101, 97, 100, 32, 105, 109, 97, 103, 101, 32, 116, 121, 112, 101, 32, 112, 114, 111, 99, 32, 99, 111, 112, 121, 32, 119, 104, 111, 108, 101, 32, 116, 101, 120, 116, 32, 115, 101, 116, 32, 110, 117, 109, 98, 101, 114, 32, 108, 105, 115, 116, 32, 103, 114, 111, 117, 112, 32, 116, 97, 98, 108, 101, 32, 112, 117, 116, 32, 112, 117, 115, 104, 32, 103, 101, 116, 32, 112, 117, 108, 108, 32, 105, 110, 115, 101, 114, 116, 32, 100, 101, 108, 101, 116, 101, 32, 109, 101, 109, 98, 101, 114, 32, 107, 101, 121, 32, 115, 111, 114, 116, 32, 108, 101, 102, 116, 32, 114, 105, 103, 104, 116, 32, 99, 101, 110, 116, 101, 114, 32, 116, 114, 105, 109, 32, 114, 101, 112, 108, 32, 114, 101, 118, 101, 114, 115, 101, 32, 109, 97, 112, 32, 99, 104, 97, 114, 32, 111, 114, 100, 32, 115, 101, 113, 32, 97, 98, 115, 32, 109, 105, 110, 32, 109, 97, 120, 32, 103, 99, 100, 32, 100, 105, 103, 105, 116, 115, 32]
def sk_b1 : List Int32 := []
def sk_b2 : List Int32 := [98, 114, 101, 97, 107, 32, 98, 121, 32, 99, 97, 115, 101, 32, 99, 114, 101, 97, 116, 101, 32, 100, 101, 102, 97, 117, 108, 116, 32, 100, 111, 32, 101, 108, 115, 101, 32, 101, 110, 100, 32, 101, 118, 101, 114, 121, 32, 102, 97, 105, 108, 32, 103, 108, 111, 98, 97, 108, 32, 105, 102, 32, 105, 110, 105, 116, 105, 97, 108, 32, 108, 111, 99, 97, 108, 32, 110, 101, 120, 116, 32, 110, 111, 116, 32, 111, 102, 32, 112, 114, 111, 99, 101, 100, 117, 114, 101, 32, 114, 101, 99, 111, 114, 100, 32, 114, 101, 112, 101, 97, 116, 32, 114, 101, 116, 117, 114, 110, 32, 115, 116, 97, 116, 105, 99, 32, 115, 117, 115, 112, 101, 110, 100, 32, 116, 104, 101, 110, 32, 116, 111, 32, 117, 110, 116, 105, 108, 32, 119, 104, 105, 108, 101, 32]
def sk_b3 : List Int32 := [110, 117, 108, 108, 32, 102, 97, 105, 108, 32, 115, 117, 98, 106, 101, 99, 116, 32, 112, 111, 115, 32, 114, 97, 110, 100, 111, 109, 32, 101, 114, 114, 111, 114, 32, 110, 117, 109, 98, 101, 114, 32, 118, 97, 108, 117, 101, 32, 108, 101, 116, 116, 101, 114, 115, 32, 100, 105, 103, 105, 116, 115, 32, 108, 111, 119, 101, 114, 32, 117, 112, 112, 101, 114, 32, 97, 108, 108, 32]
def sk_b4 : List Int32 := [40, 32, 41, 32, 91, 32, 93, 32, 123, 32, 125, 32, 44, 32, 59, 32, 46, 32, 58, 32, 43, 58, 32, 45, 58, 32, 38, 32, 63, 32, 58, 61, 32, 60, 45, 32, 58, 61, 58, 32, 60, 45, 62, 32, 124, 32, 60, 32, 60, 61, 32, 61, 32, 62, 61, 32, 62, 32, 126, 61, 32, 60, 60, 32, 60, 60, 61, 32, 61, 61, 32, 62, 62, 61, 32, 62, 62, 32, 126, 61, 61, 32, 61, 61, 61, 32, 126, 61, 61, 61, 32, 124, 124, 32, 124, 124, 124, 32, 43, 32, 45, 32, 43, 43, 32, 45, 45, 32, 42, 32, 47, 32, 37, 32, 42, 42, 32, 94, 32, 92, 32, 33, 32, 64, 32, 126, 32, 43, 58, 61, 32, 45, 58, 61, 32, 42, 58, 61, 32, 47, 58, 61, 32, 37, 58, 61, 32, 94, 58, 61, 32, 43, 43, 58, 61, 32, 45, 45, 58, 61, 32, 42, 42, 58, 61, 32, 124, 124, 58, 61, 32, 124, 124, 124, 58, 61, 32]
def sk_b5 : List Int32 := [103, 108, 111, 98, 97, 108]
def sk_b6 : List Int32 := [44]
def sk_b7 : List Int32 := [114, 101, 99, 111, 114, 100]
def sk_b8 : List Int32 := [40]
def sk_b9 : List Int32 := [91]
def sk_b10 : List Int32 := [93]
def sk_b11 : List Int32 := [41]
def sk_b12 : List Int32 := [112, 114, 111, 99, 101, 100, 117, 114, 101]
def sk_b13 : List Int32 := [32, 32, 32]
def sk_b14 : List Int32 := [108, 111, 99, 97, 108]
def sk_b15 : List Int32 := [115, 116, 97, 116, 105, 99]
def sk_b16 : List Int32 := [105, 110, 105, 116, 105, 97, 108]
def sk_b17 : List Int32 := [46]
def sk_b18 : List Int32 := [38]
def sk_b19 : List Int32 := [101, 110, 100]
def sk_b20 : List Int32 := [109, 97, 105, 110]
def sk_b21 : List Int32 := [38, 110, 117, 108, 108]
def sk_b22 : List Int32 := [112, 114, 111, 99, 101, 100, 117, 114, 101, 32]
def sk_b23 : List Int32 := [114, 101, 99, 111, 114, 100, 32]
def sk_b24 : List Int32 := [98, 117, 105, 108, 116, 45, 105, 110, 32]
def sk_b25 : List Int32 := [108, 105, 115, 116]
def sk_b26 : List Int32 := [103, 114, 111, 117, 112]
def sk_b27 : List Int32 := [116, 97, 98, 108, 101]
def sk_b28 : List Int32 := [112, 97, 114, 116]
def sk_b29 : List Int32 := [110, 117, 108, 108]
def sk_b30 : List Int32 := [119, 104, 111, 108, 101]
def sk_b31 : List Int32 := [116, 101, 120, 116]
def sk_b32 : List Int32 := [115, 101, 116]
def sk_byt : List (List Int32) := [sk_b0, sk_b1, sk_b2, sk_b3, sk_b4, sk_b5, sk_b6, sk_b7, sk_b8, sk_b9, sk_b10, sk_b11, sk_b12, sk_b13, sk_b14, sk_b15, sk_b16, sk_b17, sk_b18, sk_b19, sk_b20, sk_b21, sk_b22, sk_b23, sk_b24, sk_b25, sk_b26, sk_b27, sk_b28, sk_b29, sk_b30, sk_b31, sk_b32]
/-- class, place in its pool, text, which text -/
def sk_tab : List (String × Nat × String × Nat) := [("GoalHouse$Kit", 73, "any many upto match find bal tab move pos write writes stop read image type proc copy whole text set number list group table put push get pull insert delete member key sort left right center trim repl reverse map char ord seq abs min max gcd digits ", 0), ("java/lang/StringLatin1", 151, "", 1), ("java/lang/StringUTF16", 295, "", 1), ("GoalHouse", 206, "", 1), ("GoalHouse$Reader", 126, "break by case create default do else end every fail global if initial local next not of procedure record repeat return static suspend then to until while ", 2), ("java/lang/String", 7, "", 1), ("GoalHouse$Reader", 141, "null fail subject pos random error number value letters digits lower upper all ", 3), ("GoalHouse$Reader", 143, "( ) [ ] { } , ; . : +: -: & ? := <- :=: <-> | < <= = >= > ~= << <<= == >>= >> ~== === ~=== || ||| + - ++ -- * / % ** ^ \\ ! @ ~ +:= -:= *:= /:= %:= ^:= ++:= --:= **:= ||:= |||:= ", 4), ("GoalHouse$Reader", 249, "", 1), ("GoalHouse$Program", 130, "global", 5), ("GoalHouse$Program", 128, ",", 6), ("GoalHouse", 95, "record", 7), ("GoalHouse$Program", 142, "(", 8), ("GoalHouse$Program", 147, "[", 9), ("GoalHouse$Program", 149, "]", 10), ("GoalHouse$Program", 151, ")", 11), ("GoalHouse$Program", 153, "procedure", 12), ("GoalHouse$Program", 197, "   ", 13), ("GoalHouse$Program", 168, "local", 14), ("GoalHouse$Program", 173, "static", 15), ("GoalHouse$Program", 179, "initial", 16), ("GoalHouse$Program", 218, "break by case create default do else end every fail global if initial local next not of procedure record repeat return static suspend then to until while ", 2), ("GoalHouse$Program", 224, "( ) [ ] { } , ; . : +: -: & ? := <- :=: <-> | < <= = >= > ~= << <<= == >>= >> ~== === ~=== || ||| + - ++ -- * / % ** ^ \\ ! @ ~ +:= -:= *:= /:= %:= ^:= ++:= --:= **:= ||:= |||:= ", 4), ("GoalHouse$Program", 244, "", 1), ("GoalHouse$Program", 260, ".", 17), ("GoalHouse$Program", 265, "&", 18), ("GoalHouse$Program", 267, "null fail subject pos random error number value letters digits lower upper all ", 3), ("GoalHouse$Program", 195, "end", 19), ("GoalHouse$Program", 114, "main", 20), ("GoalHouse$Program", 94, "any many upto match find bal tab move pos write writes stop read image type proc copy whole text set number list group table put push get pull insert delete member key sort left right center trim repl reverse map char ord seq abs min max gcd digits ", 0), ("GoalHouse$Kit", 304, "&null", 21), ("GoalHouse$Kit", 311, "procedure ", 22), ("GoalHouse$Kit", 313, "record ", 23), ("GoalHouse$Kit", 315, "built-in ", 24), ("GoalHouse$Kit", 336, "list", 25), ("GoalHouse$Kit", 338, "group", 26), ("GoalHouse$Kit", 340, "table", 27), ("GoalHouse$Kit", 342, "part", 28), ("GoalHouse$Kit", 347, "record", 7), ("GoalHouse$Acts", 687, "null", 29), ("GoalHouse$Acts", 689, "whole", 30), ("GoalHouse$Acts", 690, "text", 31), ("GoalHouse$Acts", 691, "set", 32), ("GoalHouse$Acts", 692, "procedure", 12), ("GoalHouse$Acts", 694, "", 1)]
/-- what stands around the system: statics and what they hold, text constants, outside of A -/
abbrev SR (z : Nat → Nat) (A : Nat → Prop) (U : State) (H : Heap) : Prop :=
  va_Z "java/util/ArrayList" "DEFAULTCAPACITY_EMPTY_ELEMENTDATA" "[Ljava/lang/Object;" (.ref (z 0)) A U H ∧
  va_T (.object "java/lang/Object") (z 0) 0 (fun _ => .null) A U H ∧
  va_Z "java/lang/String" "COMPACT_STRINGS" "Z" (.int 1) A U H ∧
  va_Z "GoalHouse" "RANKS" "[I" (.ref (z 1)) A U H ∧
  va_Z "GoalHouse" "PLAIN" "[I" (.ref (z 2)) A U H ∧
  va_Z "jdk/internal/util/Preconditions" "SIOOBE_FORMATTER" "Ljava/util/function/BiFunction;" (.ref (z 3)) A U H ∧
  vk_S 33 sk_len sk_byt (fun i => z (100 + 2 * i)) (fun i => z (101 + 2 * i)) A U H ∧
  ∀ q ∈ sk_tab, vk_R q.1 q.2.1 q.2.2.1 (z (100 + 2 * q.2.2.2)) U
theorem SR.moved {z : Nat → Nat} {A : Nat → Prop} {u U : State} {H : Heap} (hW : u.WarmedH U.vm) (h : SR z A u H) : SR z A U H := ⟨va_Z.moved hW.alike h.1, va_T.moved hW.alike h.2.1, va_Z.moved hW.alike h.2.2.1, va_Z.moved hW.alike h.2.2.2.1, va_Z.moved hW.alike h.2.2.2.2.1, va_Z.moved hW.alike h.2.2.2.2.2.1, vk_S.moved hW.alike h.2.2.2.2.2.2.1, fun q hq => vk_R.warm hW (h.2.2.2.2.2.2.2 q hq)⟩
theorem SR.kept {z : Nat → Nat} {A : Nat → Prop} {U : State} {H H1 : Heap} (h : SR z A U H) (hq : ∀ a : Nat, a < H.size → ¬ A a → H1[a]? = H[a]?) : SR z A U H1 := ⟨va_Z.kept h.1 hq, va_T.kept h.2.1 hq, va_Z.kept h.2.2.1 hq, va_Z.kept h.2.2.2.1 hq, va_Z.kept h.2.2.2.2.1 hq, va_Z.kept h.2.2.2.2.2.1 hq, vk_S.kept h.2.2.2.2.2.2.1 hq, h.2.2.2.2.2.2.2⟩
theorem SR.narrow {z : Nat → Nat} {A B : Nat → Prop} {U : State} {H : Heap} (h : SR z A U H) (hAB : ∀ q, B q → A q) : SR z B U H := ⟨va_Z.narrow h.1 hAB, va_T.narrow h.2.1 hAB, va_Z.narrow h.2.2.1 hAB, va_Z.narrow h.2.2.2.1 hAB, va_Z.narrow h.2.2.2.2.1 hAB, va_Z.narrow h.2.2.2.2.2.1 hAB, vk_S.narrow h.2.2.2.2.2.2.1 hAB, h.2.2.2.2.2.2.2⟩
theorem ni_ne {a b : Nat} (h : a < b) (hb : b < 2147483648) : ¬ nI a = nI b := fun e => by
  have q := nI_lt h hb
  rw [e] at q
  exact absurd q (nI_nlt (Nat.le_refl b) hb)
theorem mn_y {a b : Nat} (h : b ≤ a) (ha : a < 2147483648) : (if nI b < nI a then nI b else nI a) = nI b := by
  by_cases hc : nI b < nI a
  · rw [if_pos hc]
  · rw [if_neg hc]
    rcases Nat.lt_or_ge b a with q | q
    · exact absurd (nI_lt q ha) hc
    · rw [show a = b by omega]
theorem mn_x {a b : Nat} (h : a ≤ b) (hb : b < 2147483648) : (if nI b < nI a then nI b else nI a) = nI a := by
  rw [if_neg (nI_nlt h hb)]
theorem sk_fit (l : List Int32) (h : l.all (fun x => fits .byte (.int x)) = true) (j : Nat) : fits .byte (.int (l.getD j 0)) = true := by
  by_cases hj : j < l.length
  · rw [List.getD_eq_getElem?_getD, List.getElem?_eq_getElem hj]
    exact List.all_eq_true.mp h _ (List.getElem_mem hj)
  · rw [List.getD_eq_getElem?_getD, List.getElem?_eq_none (by omega)]
    rfl
