/-- a loop whose own number goes up by one: what holds at its head, with what it has made till then -/
theorem lp_up {p : Program} {l : Launch} {e : Env} {R : Room} {s : State} {m : MethodId} {args : Array Value} {below : List Frame} {meth : Method} {c : Code} {Q : State → Prop} {pc : Nat} {σ : Type} (I : Nat → σ → Heap → List Loc → Array Slot → Prop) (cf sf : Nat → Nat) {hi : Nat}
    (step : ∀ (k : Nat) (a : σ) (H : Heap) (locs : List Loc) (ls : Array Slot), k < hi → I k a H locs ls → (∀ (a' : σ) (H' : Heap) (locs' : List Loc) (ls' : Array Slot), I (k + 1) a' H' locs' ls' → W p l e R s m args below meth c H' locs' (cf (k + 1)) (sf (k + 1)) Q (F0 m pc ls' [])) → W p l e R s m args below meth c H locs (cf k) (sf k) Q (F0 m pc ls []))
    (exit : ∀ (a : σ) (H : Heap) (locs : List Loc) (ls : Array Slot), I hi a H locs ls → W p l e R s m args below meth c H locs (cf hi) (sf hi) Q (F0 m pc ls []))
    {k : Nat} (hk : k ≤ hi) {a : σ} {H : Heap} {locs : List Loc} {ls : Array Slot} (h : I k a H locs ls) : W p l e R s m args below meth c H locs (cf k) (sf k) Q (F0 m pc ls []) := by
  obtain ⟨n, hn⟩ : ∃ n, k + n = hi := ⟨hi - k, by omega⟩
  induction n generalizing k a H locs ls with
  | zero =>
    obtain rfl : k = hi := by omega
    exact exit a H locs ls h
  | succ n ih => exact step k a H locs ls (by omega) h (fun a' H' locs' ls' h' => ih (by omega) h' (by omega))
/-- what stands around the system: statics and what they hold, outside of A -/
abbrev SR (z : Nat → Nat) (A : Nat → Prop) (U : State) (H : Heap) : Prop :=
  va_Z "java/util/ArrayList" "DEFAULTCAPACITY_EMPTY_ELEMENTDATA" "[Ljava/lang/Object;" (.ref (z 0)) A U H ∧
  va_T (.object "java/lang/Object") (z 0) 0 (fun _ => .null) A U H ∧
  va_Z "java/lang/String" "COMPACT_STRINGS" "Z" (.int 1) A U H ∧
  va_Z "GoalHouse" "RANKS" "[I" (.ref (z 1)) A U H ∧
  va_Z "GoalHouse" "PLAIN" "[I" (.ref (z 2)) A U H
theorem SR.moved {z : Nat → Nat} {A : Nat → Prop} {u U : State} {H : Heap} (hvm : u.vm.Alike U.vm) (h : SR z A u H) : SR z A U H := ⟨va_Z.moved hvm h.1, va_T.moved hvm h.2.1, va_Z.moved hvm h.2.2.1, va_Z.moved hvm h.2.2.2.1, va_Z.moved hvm h.2.2.2.2⟩
theorem SR.kept {z : Nat → Nat} {A : Nat → Prop} {U : State} {H H1 : Heap} (h : SR z A U H) (hq : ∀ a : Nat, a < H.size → ¬ A a → H1[a]? = H[a]?) : SR z A U H1 := ⟨va_Z.kept h.1 hq, va_T.kept h.2.1 hq, va_Z.kept h.2.2.1 hq, va_Z.kept h.2.2.2.1 hq, va_Z.kept h.2.2.2.2 hq⟩
theorem SR.narrow {z : Nat → Nat} {A B : Nat → Prop} {U : State} {H : Heap} (h : SR z A U H) (hAB : ∀ q, B q → A q) : SR z B U H := ⟨va_Z.narrow h.1 hAB, va_T.narrow h.2.1 hAB, va_Z.narrow h.2.2.1 hAB, va_Z.narrow h.2.2.2.1 hAB, va_Z.narrow h.2.2.2.2 hAB⟩
