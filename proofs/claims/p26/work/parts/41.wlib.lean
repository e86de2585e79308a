/-! words in lists of words: what is looked for -/
theorem lp_up {p : Program} {l : Launch} {e : Env} {R : Room} {s : State} {m : MethodId} {args : Array Value} {below : List Frame} {meth : Method} {c : Code} {Q : State → Prop} {pc : Nat} {σ : Type} (I : Nat → σ → Heap → List Loc → Array Slot → Prop) (cf sf : Nat → Nat) {hi : Nat}
    (step : ∀ (k : Nat) (a : σ) (H : Heap) (locs : List Loc) (ls : Array Slot), k < hi → I k a H locs ls → (∀ (a' : σ) (H' : Heap) (locs' : List Loc) (ls' : Array Slot), I (k + 1) a' H' locs' ls' → W p l e R s m args below meth c H' locs' (cf (k + 1)) (sf (k + 1)) Q (F0 m pc ls' [])) → W p l e R s m args below meth c H locs (cf k) (sf k) Q (F0 m pc ls []))
    (exit : ∀ (a : σ) (H : Heap) (locs : List Loc) (ls : Array Slot), I hi a H locs ls → W p l e R s m args below meth c H locs (cf hi) (sf hi) Q (F0 m pc ls []))
    {k : Nat} (hk : k ≤ hi) {a : σ} {H : Heap} {locs : List Loc} {ls : Array Slot} (h : I k a H locs ls) : W p l e R s m args below meth c H locs (cf k) (sf k) Q (F0 m pc ls []) := by
  obtain ⟨n, hn⟩ : ∃ n, k + n = hi := ⟨hi - k, by omega⟩
  induction n generalizing k a H locs ls with
  | zero =>
    obtain rfl : k = hi := by omega
    exact exit a H locs ls h
  | succ n ih => exact step k a H locs ls (by omega) h (fun a' H' locs' ls' h' => ih (by omega) h' (by omega))
theorem ni_ne {a b : Nat} (h : a < b) (hb : b < 2147483648) : ¬ nI a = nI b := fun e => by
  have q := nI_lt h hb
  rw [e] at q
  exact absurd q (nI_nlt (Nat.le_refl b) hb)
theorem ni_inj {a b : Nat} (ha : a < 2147483648) (hb : b < 2147483648) (h : nI a = nI b) : a = b := by
  rcases Nat.lt_trichotomy a b with q | q | q
  · exact absurd h (ni_ne q hb)
  · exact q
  · exact absurd h.symm (ni_ne q ha)
theorem mn_y {a b : Nat} (h : b ≤ a) (ha : a < 2147483648) : (if nI b < nI a then nI b else nI a) = nI b := by
  by_cases hc : nI b < nI a
  · rw [if_pos hc]
  · rw [if_neg hc]
    rcases Nat.lt_or_ge b a with q | q
    · exact absurd (nI_lt q ha) hc
    · rw [show a = b by omega]
theorem mn_x {a b : Nat} (h : a ≤ b) (hb : b < 2147483648) : (if nI b < nI a then nI b else nI a) = nI a := by
  rw [if_neg (nI_nlt h hb)]
theorem mx_x {a b : Nat} (h : b ≤ a) (ha : a < 2147483648) : (if nI a < nI b then nI b else nI a) = nI a := by
  rw [if_neg (nI_nlt h ha)]
theorem mx_y {a b : Nat} (h : a ≤ b) (hb : b < 2147483648) : (if nI a < nI b then nI b else nI a) = nI b := by
  by_cases hc : nI a < nI b
  · rw [if_pos hc]
  · rw [if_neg hc]
    rcases Nat.lt_or_ge a b with q | q
    · exact absurd (nI_lt q hb) hc
    · rw [show a = b by omega]
theorem sk_fit (l : List Int32) (h : l.all (fun x => fits .byte (.int x)) = true) (j : Nat) : fits .byte (.int (l.getD j 0)) = true := by
  by_cases hj : j < l.length
  · rw [List.getD_eq_getElem?_getD, List.getElem?_eq_getElem hj]
    exact List.all_eq_true.mp h _ (List.getElem_mem hj)
  · rw [List.getD_eq_getElem?_getD, List.getElem?_eq_none (by omega)]
    rfl
/-- whether the bytes of a list from st on are those of a row from fr on -/
def sbI (L : List Int32) (f : Nat → Int32) (st fr n : Nat) : Int32 := if ∀ t, t < n → L.getD (st + t) 0 = f (fr + t) &&& 255 then 1 else 0
theorem sbI_or (L : List Int32) (f : Nat → Int32) (st fr n : Nat) : sbI L f st fr n = 0 ∨ sbI L f st fr n = 1 := by
  unfold sbI
  split
  · exact Or.inr rfl
  · exact Or.inl rfl
/-- the number of the word in a list that these bytes are: r places are left, at i, behind id words, the last one began at st -/
def wlk (L : List Int32) (f : Nat → Int32) (fr n : Nat) : Nat → Nat → Nat → Nat → Int32
  | 0, _, _, _ => -1
  | r + 1, i, id, st => if L.getD i 0 = 32 then (if i - st = n ∧ sbI L f st fr n = 1 then nI id else wlk L f fr n r (i + 1) (id + 1) (i + 1)) else wlk L f fr n r (i + 1) id st
def wl (L : List Int32) (f : Nat → Int32) (fr n : Nat) : Int32 := wlk L f fr n L.length 0 0 0
theorem wlk_hit {L : List Int32} {f : Nat → Int32} {fr n r i id st : Nat} {w : Int32} (hv : wlk L f fr n (r + 1) i id st = w) (h : L.getD i 0 = 32) (hm : i - st = n) (hs : ¬ sbI L f st fr n = 0) : nI id = w := by
  rw [← hv, wlk, if_pos h, if_pos ⟨hm, (sbI_or L f st fr n).resolve_left hs⟩]
theorem wlk_len {L : List Int32} {f : Nat → Int32} {fr n r i id st : Nat} {w : Int32} (hv : wlk L f fr n (r + 1) i id st = w) (h : L.getD i 0 = 32) (hm : ¬ nI (i - st) = nI n) : wlk L f fr n r (i + 1) (id + 1) (i + 1) = w := by
  rw [wlk, if_pos h, if_neg (fun q => hm (by rw [q.1]))] at hv
  exact hv
theorem wlk_not {L : List Int32} {f : Nat → Int32} {fr n r i id st : Nat} {w : Int32} (hv : wlk L f fr n (r + 1) i id st = w) (h : L.getD i 0 = 32) (hs : sbI L f st fr n = 0) : wlk L f fr n r (i + 1) (id + 1) (i + 1) = w := by
  rw [wlk, if_pos h, if_neg (fun q => absurd (hs.symm.trans q.2) (by decide))] at hv
  exact hv
theorem wlk_go {L : List Int32} {f : Nat → Int32} {fr n r i id st : Nat} {w : Int32} (hv : wlk L f fr n (r + 1) i id st = w) (h : ¬ L.getD i 0 = 32) : wlk L f fr n r (i + 1) id st = w := by
  rw [wlk, if_neg h] at hv
  exact hv
/-- the bytes of a text constant as chars -/
theorem ch_fit (l : List Int32) (h : l.all (fun x => decide (((x &&& 255).toUInt32 % 65536).toInt32 = x)) = true) (j : Nat) : (((l.getD j 0) &&& 255).toUInt32 % 65536).toInt32 = l.getD j 0 := by
  by_cases hj : j < l.length
  · rw [List.getD_eq_getElem?_getD, List.getElem?_eq_getElem hj]
    exact of_decide_eq_true (List.all_eq_true.mp h _ (List.getElem_mem hj))
  · rw [List.getD_eq_getElem?_getD, List.getElem?_eq_none (by omega)]
    rfl
theorem ch_nar (l : List Int32) (h : l.all (fun x => decide ((x.toUInt32 % 65536).toInt32 = x)) = true) (j : Nat) : narrow FieldType.char (Value.int (l.getD j 0)) = Value.int (l.getD j 0) := by
  have q : ((l.getD j 0).toUInt32 % 65536).toInt32 = l.getD j 0 := by
    by_cases hj : j < l.length
    · rw [List.getD_eq_getElem?_getD, List.getElem?_eq_getElem hj]
      exact of_decide_eq_true (List.all_eq_true.mp h _ (List.getElem_mem hj))
    · rw [List.getD_eq_getElem?_getD, List.getElem?_eq_none (by omega)]
      rfl
  rw [← q]
  exact pk_nc _
/-- the same from some of the bytes: none where they don't decide it -/
def wlB (L : List Int32) (B : List (Nat × Int32)) (n : Nat) : Nat → Nat → Nat → Nat → Option Int32
  | 0, _, _, _ => some (-1)
  | r + 1, i, id, st => if L.getD i 0 = 32 then
      (if i - st = n then
        (if B.any (fun q => decide (q.1 < n) && decide (¬ L.getD (st + q.1) 0 = q.2 &&& 255)) then wlB L B n r (i + 1) (id + 1) (i + 1)
          else if (List.range n).all (fun t => B.any (fun q => decide (q.1 = t) && decide (L.getD (st + t) 0 = q.2 &&& 255))) then some (nI id) else none)
        else wlB L B n r (i + 1) (id + 1) (i + 1))
      else wlB L B n r (i + 1) id st
theorem wlB_wlk {L : List Int32} {B : List (Nat × Int32)} {f : Nat → Int32} {fr n : Nat} (hB : ∀ q ∈ B, f (fr + q.1) = q.2) : ∀ (r i id st : Nat) (w : Int32), wlB L B n r i id st = some w → wlk L f fr n r i id st = w := by
  intro r
  induction r with
  | zero => intro i id st w h; exact Option.some.inj h
  | succ r ih =>
    intro i id st w h
    rw [wlB] at h
    rw [wlk]
    by_cases h1 : L.getD i 0 = 32
    · rw [if_pos h1] at h ⊢
      by_cases h2 : i - st = n
      · rw [if_pos h2] at h
        by_cases h3 : (B.any (fun q => decide (q.1 < n) && decide (¬ L.getD (st + q.1) 0 = q.2 &&& 255))) = true
        · rw [if_pos h3] at h
          obtain ⟨q, hq, h4⟩ := List.any_eq_true.mp h3
          rw [Bool.and_eq_true, decide_eq_true_iff, decide_eq_true_iff] at h4
          have h5 : ¬ sbI L f st fr n = 1 := by
            unfold sbI
            rw [if_neg (fun z => h4.2 (by rw [← hB q hq]; exact z q.1 h4.1))]
            decide
          rw [if_neg (fun z => h5 z.2)]
          exact ih _ _ _ _ h
        · rw [if_neg h3] at h
          by_cases h4 : ((List.range n).all (fun t => B.any (fun q => decide (q.1 = t) && decide (L.getD (st + t) 0 = q.2 &&& 255)))) = true
          · rw [if_pos h4] at h
            have h5 : sbI L f st fr n = 1 := by
              unfold sbI
              rw [if_pos]
              intro t ht
              obtain ⟨q, hq, h6⟩ := List.any_eq_true.mp (List.all_eq_true.mp h4 t (List.mem_range.mpr ht))
              rw [Bool.and_eq_true, decide_eq_true_iff, decide_eq_true_iff] at h6
              rw [h6.2, ← hB q hq, h6.1]
            rw [if_pos ⟨h2, h5⟩]
            exact Option.some.inj h
          · rw [if_neg h4] at h
            cases h
      · rw [if_neg h2] at h
        rw [if_neg (fun z => h2 z.1)]
        exact ih _ _ _ _ h
    · rw [if_neg h1] at h ⊢
      exact ih _ _ _ _ h
theorem wl_of {L : List Int32} {B : List (Nat × Int32)} {f : Nat → Int32} {fr n : Nat} {w : Int32} (hB : ∀ q ∈ B, f (fr + q.1) = q.2) (h : wlB L B n L.length 0 0 0 = some w) : wl L f fr n = w := wlB_wlk hB _ _ _ _ _ h
theorem wB_n {f : Nat → Int32} {fr : Nat} : ∀ q ∈ ([] : List (Nat × Int32)), f (fr + q.1) = q.2 := fun _ h => nomatch h
theorem wB_c {f : Nat → Int32} {fr t : Nat} {v : Int32} {B : List (Nat × Int32)} (h : f (fr + t) = v) (hB : ∀ q ∈ B, f (fr + q.1) = q.2) : ∀ q ∈ (t, v) :: B, f (fr + q.1) = q.2 := fun q hq => (List.mem_cons.mp hq).elim (fun e => by rw [e]; exact h) (hB q)
theorem sk_outS {N : Nat} {len : List Nat} {byt : List (List Int32)} {aK aV : Nat → Nat} {A : Nat → Prop} {U : State} {H : Heap} (h : vk_S N len byt aK aV A U H) {i : Nat} (hi : i < N) : ¬ A (aK i) := by
  obtain ⟨_, _, _, _, q⟩ := (h.1 i hi).1
  exact q
