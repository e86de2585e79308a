/-! what the unknowns stand for -/
theorem n_bit1 {ns : Nat} {f : Nat → Int32} : n_bit ns f 1 = 0 ∨ n_bit ns f 1 = 1 := by
  have : 0 ≤ n_bit ns f 1 ∧ n_bit ns f 1 ≤ 1 := l_andR rfl (by decide) (by decide)
  omega
theorem n_bit2 {ns : Nat} {f : Nat → Int32} : n_bit ns f 2 = 0 ∨ n_bit ns f 2 = 2 := by
  have h : 0 ≤ n_bit ns f 2 ∧ n_bit ns f 2 ≤ 2 := l_andR rfl (by decide) (by decide)
  have h1 : n_bit ns f 2 ≠ 1 := by
    intro q
    have e : l_cell ns f 10 &&& Int32.ofInt 2 = 1 := by
      rw [← Int32.ofInt_toInt (l_cell ns f 10 &&& Int32.ofInt 2)]
      show Int32.ofInt (n_bit ns f 2) = 1
      rw [q]
      decide
    have e2 : (l_cell ns f 10 &&& Int32.ofInt 2) &&& 1 = 0 := by
      rw [Int32.and_assoc, show Int32.ofInt 2 &&& 1 = 0 by decide, Int32.and_zero]
    rw [e] at e2
    exact absurd e2 (by decide)
  omega
/-- the numbers, without the text -/
def n_σ (ns : Nat) (f : Nat → Int32) (i : Nat) : Int :=
  if i < 6 then (if n_m ns f i < 0 then - n_m ns f i else n_m ns f i)
  else if i = 6 then (if n_by ns f < 0 then - n_by ns f else n_by ns f)
  else if i = 7 then (if n_ot ns f < 0 then - n_ot ns f else n_ot ns f)
  else if i = 8 then n_mo ns f / 10
  else if i = 9 then n_mo ns f % 10
  else if i < 20 then 0
  else if i < 26 then n_m ns f (i - 20)
  else if i = 26 then n_by ns f
  else if i = 27 then n_ot ns f
  else if i = 28 then n_lo ns f 12 6
  else if i = 29 then n_lo ns f 13 6
  else if i = 30 then n_mo ns f
  else if i < 34 then n_m ns f (i - 25)
  else if i < 300 then (match sx_lk j_th i with
    | some e => e.1
    | none => 0)
  else if i < 315 then (l_cell ns f (i - 300)).toInt
  else if i < 320 then 0
  else if i < 329 then n_lo ns f (i - 320) 13
  else if i = 329 then n_lo ns f 9 3
  else if i = 331 then n_lo ns f 11 2
  else if i = 332 then n_lo ns f 12 6
  else if i = 333 then n_lo ns f 13 6
  else if i = 334 then n_lo ns f 14 40
  else if i = 352 then n_bit ns f 1
  else if i = 353 then n_bit ns f 2
  else 0
/-- with the text -/
def n_στ (ns : Nat) (f : Nat → Int32) (T : List sx_I) (i : Nat) : Int := if i < 220 then n_σ ns f i else if i < 300 then (match T[i - 220]? with
  | some e => sx_ev (n_σ ns f) e
  | none => 0) else n_σ ns f i
theorem n_στ_lo {ns : Nat} {f : Nat → Int32} {T : List sx_I} {i : Nat} (h : i < 220 ∨ 300 ≤ i) : n_στ ns f T i = n_σ ns f i := by
  unfold n_στ
  by_cases h1 : i < 220
  · rw [if_pos h1]
  · rw [if_neg h1, if_neg (by omega)]
/-- rows 46 to 121, with these numbers -/
theorem n_46 {ns : Nat} {f : Nat → Int32} (hns : ns < 2 ^ 31) (T : List sx_I) (z : Nat → Nat) : sx_SgF ns f wsL_law sm_L_law 18 726 0 0 z (n_στ ns f T) (l_pt 46 j_L0 [] 0) (l_pt 121 j_L1 [] 9) := by
  have e : ∀ {i : Nat}, (i < 220 ∨ 300 ≤ i) → n_στ ns f T i = n_σ ns f i := fun h => n_στ_lo h
  have c3 : ∀ k, k < 15 → n_στ ns f T (300 + k) = (l_cell ns f k).toInt := by
    intro k hk
    rw [e (by omega)]
    unfold n_σ
    repeat rw [if_neg (by omega)]
    rw [if_pos (by omega), show 300 + k - 300 = k by omega]
  have c4 : ∀ k, k < 15 → Int32.ofInt (n_στ ns f T (300 + k)) = l_cell ns f k := fun k hk => by rw [c3 k hk, Int32.ofInt_toInt]
  have c5 : ∀ k, k < 9 → n_στ ns f T (320 + k) = n_lo ns f k 13 := by
    intro k hk
    rw [e (by omega)]
    unfold n_σ
    repeat rw [if_neg (by omega)]
    rw [if_pos (by omega), show 320 + k - 320 = k by omega]
  have v29 : n_στ ns f T 329 = n_lo ns f 9 3 := e (by decide)
  have v31 : n_στ ns f T 331 = n_lo ns f 11 2 := e (by decide)
  have v32 : n_στ ns f T 332 = n_lo ns f 12 6 := e (by decide)
  have v33 : n_στ ns f T 333 = n_lo ns f 13 6 := e (by decide)
  have v34 : n_στ ns f T 334 = n_lo ns f 14 40 := e (by decide)
  have v52 : n_στ ns f T 352 = n_bit ns f 1 := e (by decide)
  have v53 : n_στ ns f T 353 = n_bit ns f 2 := e (by decide)
  have w26 : n_στ ns f T 26 = n_by ns f := e (by decide)
  have w27 : n_στ ns f T 27 = n_ot ns f := e (by decide)
  have w28 : n_στ ns f T 28 = n_lo ns f 12 6 := e (by decide)
  have w29 : n_στ ns f T 29 = n_lo ns f 13 6 := e (by decide)
  have w30 : n_στ ns f T 30 = n_mo ns f := e (by decide)
  refine l_all hns c3 (fun k hk => by rw [c4 k (by omega), c5 k hk]; rfl) (fun k hk => by rw [c5 k hk]; exact n_lo13) (fun k hk => ?_) ?_ ?_ ?_ ?_ ?_ ?_ ?_ ?_ ?_ ?_ ?_ ?_ ?_ ?_ ?_
  · rw [c5 k hk]
    match k, hk with
    | 0, _ => exact e (by decide)
    | 1, _ => exact e (by decide)
    | 2, _ => exact e (by decide)
    | 3, _ => exact e (by decide)
    | 4, _ => exact e (by decide)
    | 5, _ => exact e (by decide)
    | 6, _ => exact e (by decide)
    | 7, _ => exact e (by decide)
    | 8, _ => exact e (by decide)
  · rw [v29, show (309 : Nat) = 300 + 9 from rfl, c4 9 (by decide)]; rfl
  · rw [v29]; exact n_lo3
  · rw [v31, show (311 : Nat) = 300 + 11 from rfl, c4 11 (by decide)]; rfl
  · rw [v31]; exact n_lo2
  · rw [v32, show (312 : Nat) = 300 + 12 from rfl, c4 12 (by decide)]; rfl
  · rw [v33, show (313 : Nat) = 300 + 13 from rfl, c4 13 (by decide)]; rfl
  · rw [v34, show (314 : Nat) = 300 + 14 from rfl, c4 14 (by decide)]; rfl
  · rw [v34]; exact n_lo40
  · rw [v52, show (310 : Nat) = 300 + 10 from rfl, c4 10 (by decide)]; rfl
  · rw [v53, show (310 : Nat) = 300 + 10 from rfl, c4 10 (by decide)]; rfl
  · rw [v52, w26, v29]
    rcases n_bit1 (ns := ns) (f := f) with h | h
    · exact Or.inl ⟨h, by unfold n_by; rw [if_pos h]⟩
    · exact Or.inr ⟨h, by unfold n_by; rw [if_neg (by omega)]⟩
  · rw [v53, w27, v31]
    rcases n_bit2 (ns := ns) (f := f) with h | h
    · exact Or.inl ⟨h, by unfold n_ot; rw [if_pos h]⟩
    · exact Or.inr ⟨h, by unfold n_ot; rw [if_neg (by omega)]⟩
  · rw [w28, v32]
  · rw [w29, v33]
  · rw [w30, v34]; rfl
