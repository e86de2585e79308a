/-! the numbers that the law reads out of its argument -/
theorem l_lowR {v : Int32} {c : Nat} {b : Int} (hc : sx_nrem [] (.inr (0, 2147483647)) (.inl (sx_c (Int.ofNat c))) = some (.inr (0, b))) (hb : b ≤ 1000) : 0 ≤ (l_low v (nI c)).toInt ∧ (l_low v (nI c)).toInt ≤ b := by
  have h0 : sx_okB (fun _ => 0) [] := fun q hq => (nomatch hq)
  have h1 : sx_RN (fun _ => 0) (.inr (0, 2147483647)) (v &&& Int32.ofInt 2147483647) := sx_nand_ok h0 (v := sx_full) (w := .inl (sx_c 2147483647)) rfl (sx_full_ok _ v) (sx_RNc 2147483647)
  have h2 := (sx_nrem_ok h0 hc h1 (sx_RNc (Int.ofNat c))).1
  have e : Int32.ofInt (Int.ofNat c) = nI c := Int32.ofInt_eq_ofNat (n := c)
  rw [e] at h2
  obtain ⟨i, i1, i2, i3⟩ := h2
  have i1 : (0 : Int) ≤ i := i1
  have i2 : i ≤ b := i2
  have i3 : l_low v (nI c) = Int32.ofInt i := i3
  rw [i3, Int32.toInt_ofInt_of_le (by omega) (by omega)]
  exact ⟨i1, i2⟩
theorem l_andR {x : Int32} {c : Int} (hc : sx_nand [] sx_full (.inl (sx_c c)) = some (.inr (0, c))) (h1 : 0 ≤ c) (h2 : c ≤ 1000) : 0 ≤ (x &&& Int32.ofInt c).toInt ∧ (x &&& Int32.ofInt c).toInt ≤ c := by
  have h0 : sx_okB (fun _ => 0) [] := fun q hq => (nomatch hq)
  obtain ⟨i, i1, i2, i3⟩ := sx_nand_ok h0 hc (sx_full_ok _ x) (sx_RNc c)
  have i1 : (0 : Int) ≤ i := i1
  have i2 : i ≤ c := i2
  rw [i3, Int32.toInt_ofInt_of_le (by omega) (by omega)]
  exact ⟨i1, i2⟩
/-- cell k of the argument, made small -/
def n_lo (ns : Nat) (f : Nat → Int32) (k c : Nat) : Int := (l_low (l_cell ns f k) (nI c)).toInt
theorem n_lo13 {ns : Nat} {f : Nat → Int32} {k : Nat} : 0 ≤ n_lo ns f k 13 ∧ n_lo ns f k 13 ≤ 12 := l_lowR rfl (by decide)
theorem n_lo3 {ns : Nat} {f : Nat → Int32} {k : Nat} : 0 ≤ n_lo ns f k 3 ∧ n_lo ns f k 3 ≤ 2 := l_lowR rfl (by decide)
theorem n_lo2 {ns : Nat} {f : Nat → Int32} {k : Nat} : 0 ≤ n_lo ns f k 2 ∧ n_lo ns f k 2 ≤ 1 := l_lowR rfl (by decide)
theorem n_lo6 {ns : Nat} {f : Nat → Int32} {k : Nat} : 0 ≤ n_lo ns f k 6 ∧ n_lo ns f k 6 ≤ 5 := l_lowR rfl (by decide)
theorem n_lo40 {ns : Nat} {f : Nat → Int32} {k : Nat} : 0 ≤ n_lo ns f k 40 ∧ n_lo ns f k 40 ≤ 39 := l_lowR rfl (by decide)
def n_bit (ns : Nat) (f : Nat → Int32) (c : Int) : Int := (l_cell ns f 10 &&& Int32.ofInt c).toInt
/-- m[6 + k] -/
def n_m (ns : Nat) (f : Nat → Int32) (k : Nat) : Int := n_lo ns f k 13 - 6
def n_by (ns : Nat) (f : Nat → Int32) : Int := if n_bit ns f 1 = 0 then 1 + n_lo ns f 9 3 else -1 - n_lo ns f 9 3
def n_ot (ns : Nat) (f : Nat → Int32) : Int := if n_bit ns f 2 = 0 then 1 + n_lo ns f 11 2 else -1 - n_lo ns f 11 2
def n_mo (ns : Nat) (f : Nat → Int32) : Int := 2 + n_lo ns f 14 40
theorem n_m_rg {ns : Nat} {f : Nat → Int32} {k : Nat} : -6 ≤ n_m ns f k ∧ n_m ns f k ≤ 6 := by
  have := n_lo13 (ns := ns) (f := f) (k := k)
  unfold n_m
  omega
