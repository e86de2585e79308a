/-- a loop whose own number goes up by one: what holds at its head, with what it has made till then -/
theorem lp_up {p : Program} {l : Launch} {e : Env} {R : Room} {s : State} {m : MethodId} {args : Array Value} {below : List Frame} {meth : Method} {c : Code} {Q : State → Prop} {pc : Nat} {σ : Type} (I : Nat → σ → Heap → List Loc → Array Slot → Prop) (cf sf : Nat → Nat) {hi : Nat}
    (step : ∀ (k : Nat) (a : σ) (H : Heap) (locs : List Loc) (ls : Array Slot), k < hi → I k a H locs ls → (∀ (a' : σ) (H' : Heap) (locs' : List Loc) (ls' : Array Slot), I (k + 1) a' H' locs' ls' → W p l e R s m args below meth c H' locs' (cf (k + 1)) (sf (k + 1)) Q (F0 m pc ls' [])) → W p l e R s m args below meth c H locs (cf k) (sf k) Q (F0 m pc ls []))
    (exit : ∀ (a : σ) (H : Heap) (locs : List Loc) (ls : Array Slot), I hi a H locs ls → W p l e R s m args below meth c H locs (cf hi) (sf hi) Q (F0 m pc ls []))
    {k : Nat} (hk : k ≤ hi) {a : σ} {H : Heap} {locs : List Loc} {ls : Array Slot} (h : I k a H locs ls) : W p l e R s m args below meth c H locs (cf k) (sf k) Q (F0 m pc ls []) := by
  obtain ⟨n, hn⟩ : ∃ n, k + n = hi := ⟨hi - k, by omega⟩
  induction n generalizing k a H locs ls with
  | zero =>
    obtain rfl : k = hi := by omega
    exact exit a H locs ls h
  | succ n ih => exact step k a H locs ls (by omega) h (fun a' H' locs' ls' h' => ih (by omega) h' (by omega))
