/-! a callee has a plain class -/
theorem sx_okcall_plain {P : Nat → Option sx_M} {tbs : List (List Cond)} {own : String} {ins : Instr} {kd mj n ci : Nat} {tl : List Nat} {M' : sx_M} (h : sx_okcall P tbs own ins (kd :: mj :: n :: ci :: tl) = true) (hk : kd ≠ 9) (hM : P mj = some M') : plainName M'.1.cls = true := by
  unfold sx_okcall at h
  split at h
  · rename_i e
    injection e with e1 e
    injection e with e2 e
    subst e1 e2
    rw [hM] at h
    simp only [Bool.and_eq_true] at h
    exact h.1.1.2
  · rename_i e
    injection e with e1 e
    subst e1
    exact absurd (Nat.eq_of_beq_eq_true h) hk
  · rename_i h1
    exact absurd rfl (h1 _ _)
