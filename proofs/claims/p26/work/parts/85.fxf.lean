/-! hooks, whole runs -/
noncomputable def fx_hkn (aux : List Nat) : Nat := match aux with
  | k :: m :: _ => bif Nat.beq k 9 then 1000 + m else bif Nat.beq m 1 then 1 else bif Nat.beq m 8 then 8 else bif Nat.beq m 9 then 9 else bif Nat.beq m 228 then 228 else 0
  | _ => 0
/-- a native row's words -/
noncomputable def fx_gd (M : sx_M) (x : sx_R) (j t : Nat) : Bool := match x.2.1 with
  | .invokespecial idx => Nat.beq j 0 && sx_has sx_tbs t (.methodLink M.1.cls idx objectInit)
  | .invokestatic idx => (match j with
    | 1 => sx_has sx_tbs t (.methodLink M.1.cls idx Lib.Math.min.name)
    | 2 => sx_has sx_tbs t (.methodLink M.1.cls idx Lib.Math.max.name)
    | 3 => sx_has sx_tbs t (.methodLink M.1.cls idx arraycopyName)
    | 4 => sx_has sx_tbs t (.methodLink M.1.cls idx Lib.MathLoose.abs_long.x)
    | _ => false)
  | _ => false
/-- a native row on the stack alone: 0 the constructor of Object, 1 least, 2 greatest of two ints, 4 a long's size -/
noncomputable def fx_nat (B : sx_Bs) (j : Nat) : Nat → Nat → List sx_V → Option (List sx_V) := match j with
  | 0 => fun fr lo S => (match S with
    | .inr (.inr (some (.inl _))) :: S => bif Nat.ble 1 fr && Nat.ble 20 lo && Nat.ble (fx_sl S) 8 then some S else none
    | _ => none)
  | 1 => fun fr lo S => (match S with
    | .inl y :: .inl x9 :: S => (match sx_dif B y x9 with
      | some d => (match sx_rel .lt d with
        | some b => bif Nat.ble 1 fr && Nat.ble 21 lo && Nat.ble (fx_sl S) 8 then some (.inl (bif b then y else x9) :: S) else none
        | none => none)
      | none => none)
    | _ => none)
  | 2 => fun fr lo S => (match S with
    | .inl y :: .inl x9 :: S => (match sx_dif B x9 y with
      | some d => (match sx_rel .lt d with
        | some b => bif Nat.ble 1 fr && Nat.ble 21 lo && Nat.ble (fx_sl S) 8 then some (.inl (bif b then y else x9) :: S) else none
        | none => none)
      | none => none)
    | _ => none)
  | 4 => fun fr lo S => (match S with
    | .inr (.inl e) :: S => bif Nat.ble 1 fr && Nat.ble 21 lo && Nat.ble (fx_sl S) 8 then
        (bif sx_in B e 0 9223372036854775807 then some (.inr (.inl e) :: S)
        else bif sx_in B e (-9223372036854775808) 0 then some (.inr (.inl (sx_lnm (sx_mul (-1) e))) :: S) else none) else none
    | _ => none)
  | _ => fun _ _ _ => none
theorem fx_prm0 (B : sx_Bs) (fr lo : Nat) (M : sx_M) (pc len t : Nat) (ins : Instr) (cst : Int) (c : sx_S) : sx_prm B fr lo M (pc, ins, len, [9, 0, t], cst) c = sx_prO fr lo t M (pc, ins, len, [9, 0, t], cst) c := by
  unfold sx_prm
  rfl
theorem fx_prm1 (B : sx_Bs) (fr lo : Nat) (M : sx_M) (pc len t : Nat) (ins : Instr) (cst : Int) (c : sx_S) : sx_prm B fr lo M (pc, ins, len, [9, 1, t], cst) c = sx_prNmin B fr lo t M (pc, ins, len, [9, 1, t], cst) c := by
  unfold sx_prm
  rfl
theorem fx_prm2 (B : sx_Bs) (fr lo : Nat) (M : sx_M) (pc len t : Nat) (ins : Instr) (cst : Int) (c : sx_S) : sx_prm B fr lo M (pc, ins, len, [9, 2, t], cst) c = sx_prNmax B fr lo t M (pc, ins, len, [9, 2, t], cst) c := by
  unfold sx_prm
  rfl
theorem fx_prm3 (B : sx_Bs) (fr lo : Nat) (M : sx_M) (pc len t : Nat) (ins : Instr) (cst : Int) (c : sx_S) : sx_prm B fr lo M (pc, ins, len, [9, 3, t], cst) c = sx_prA B fr lo t M (pc, ins, len, [9, 3, t], cst) c := by
  unfold sx_prm
  rfl
theorem fx_prm4 (B : sx_Bs) (fr lo : Nat) (M : sx_M) (pc len t : Nat) (ins : Instr) (cst : Int) (c : sx_S) : sx_prm B fr lo M (pc, ins, len, [9, 4, t], cst) c = sx_prB B fr lo t M (pc, ins, len, [9, 4, t], cst) c := by
  unfold sx_prm
  rfl
theorem fx_nat_ok {B : sx_Bs} {M : sx_M} {pc len j t fr lo : Nat} {ins : Instr} {cst : Int} {S S1 : List sx_V} (hg : fx_gd M (pc, ins, len, [9, j, t], cst) j t = true) (h : fx_nat B j fr lo S = some S1) (r nx k n : Nat) (L : List (Nat × sx_V)) (w' : sx_W) : sx_prm B fr lo M (pc, ins, len, [9, j, t], cst) (r, L, S, w', nx, k, n) = some (r + 1, L, S1, w', nx, k, n) := by
  unfold fx_nat at h
  split at h
  · -- Object
    unfold fx_gd at hg
    split at hg
    · rename_i idx hins
      have hins : ins = .invokespecial idx := hins
      subst hins
      rw [Bool.and_eq_true] at hg
      simp only at h
      split at h
      · rename_i a S0
        cases hc : (Nat.ble 1 fr && Nat.ble 20 lo && Nat.ble (fx_sl S0) 8) with
        | false => simp only [hc, cond_false] at h; cases h
        | true =>
          simp only [hc, cond_true] at h
          cases h
          rw [fx_sl_eq] at hc
          rw [fx_prm0]
          unfold sx_prO
          simp only [hc, hg.2, Bool.and_true, cond_true]
      · cases h
    · cases hg
    · cases hg
  · unfold fx_gd at hg
    split at hg
    · rw [Bool.and_eq_true] at hg; exact nomatch hg.1
    · rename_i idx hins
      have hins : ins = .invokestatic idx := hins
      subst hins
      simp only at h
      split at h
      · rename_i y x9 S0
        split at h
        · rename_i d hd
          split at h
          · rename_i b hb
            cases hc : (Nat.ble 1 fr && Nat.ble 21 lo && Nat.ble (fx_sl S0) 8) with
            | false => simp only [hc, cond_false] at h; cases h
            | true =>
              simp only [hc, cond_true] at h
              cases h
              rw [fx_sl_eq] at hc
              rw [fx_prm1]
              unfold sx_prNmin
              have hg : sx_has sx_tbs t (.methodLink M.1.cls idx Lib.Math.min.name) = true := hg
              simp only [hd, hb, hc, hg, Bool.and_true, cond_true]
          · cases h
        · cases h
      · cases h
    · cases hg
  · unfold fx_gd at hg
    split at hg
    · rw [Bool.and_eq_true] at hg; exact nomatch hg.1
    · rename_i idx hins
      have hins : ins = .invokestatic idx := hins
      subst hins
      simp only at h
      split at h
      · rename_i y x9 S0
        split at h
        · rename_i d hd
          split at h
          · rename_i b hb
            cases hc : (Nat.ble 1 fr && Nat.ble 21 lo && Nat.ble (fx_sl S0) 8) with
            | false => simp only [hc, cond_false] at h; cases h
            | true =>
              simp only [hc, cond_true] at h
              cases h
              rw [fx_sl_eq] at hc
              rw [fx_prm2]
              unfold sx_prNmax
              have hg : sx_has sx_tbs t (.methodLink M.1.cls idx Lib.Math.max.name) = true := hg
              simp only [hd, hb, hc, hg, Bool.and_true, cond_true]
          · cases h
        · cases h
      · cases h
    · cases hg
  · unfold fx_gd at hg
    split at hg
    · rw [Bool.and_eq_true] at hg; exact nomatch hg.1
    · rename_i idx hins
      have hins : ins = .invokestatic idx := hins
      subst hins
      simp only at h
      split at h
      · rename_i e S0
        cases hc : (Nat.ble 1 fr && Nat.ble 21 lo && Nat.ble (fx_sl S0) 8) with
        | false => simp only [hc, cond_false] at h; cases h
        | true =>
          simp only [hc, cond_true] at h
          rw [fx_sl_eq] at hc
          have hg : sx_has sx_tbs t (.methodLink M.1.cls idx Lib.MathLoose.abs_long.x) = true := hg
          rw [fx_prm4]
          unfold sx_prB
          simp only [hc, hg, Bool.and_true, cond_true]
          cases h1 : sx_in B e 0 9223372036854775807 with
          | true =>
            rw [h1, cond_true] at h
            cases h
            rfl
          | false =>
            rw [h1, cond_false] at h
            rw [cond_false]
            cases h2 : sx_in B e (-9223372036854775808) 0 with
            | true =>
              rw [h2, cond_true] at h
              cases h
              rfl
            | false =>
              rw [h2, cond_false] at h
              cases h
      · cases h
    · cases hg
  · cases h
/-- copies between rows -/
noncomputable def fx_acp (B : sx_Bs) (fr lo : Nat) (S : List sx_V) (w : fx_W) : Option (List sx_V × Nat × sx_C) := match S with
    | .inl vn :: .inl vd :: .inr (.inr (some (.inl a1))) :: .inl vs :: .inr (.inr (some src)) :: S => (match sx_nn vn, sx_nn vd, sx_nn vs, fx_look 9 w a1 with
      | some n, some dp, some sp, some (.inr (t1, n1, zr, u)) => bif Nat.ble 1 fr && Nat.ble 40 lo && Nat.ble (fx_sl S) 8 && Nat.ble (dp + n) n1 then (match src with
        | .inl a0 => (match fx_look 9 w a0 with
          | some (.inr (t0, n0, zr0, u0)) => bif Nat.beq t0 t1 && Nat.blt t0 4 && Nat.ble (sp + n) n0 then (match sx_cp (sx_elt t0 zr0 u0) (sx_fit B (sx_ftt t0)) sp dp n u with
            | some u' => some (S, a1, .inr (t1, n1, zr, u'))
            | none => none) else none
          | _ => none)
        | .inr q => (match sx_bytq q with
          | some lq => bif Nat.beq t1 1 && Nat.ble (sp + n) lq.length then (match sx_cp (sx_txe lq) (sx_fit B 2) sp dp n u with
            | some u' => some (S, a1, .inr (t1, n1, zr, u'))
            | none => none) else none
          | none => none)) else none
      | _, _, _, _ => none)
    | _ => none
theorem fx_acp_ok {B : sx_Bs} {M : sx_M} {pc len t fr lo : Nat} {ins : Instr} {cst : Int} {S : List sx_V} {w : fx_W} {q : List sx_V × Nat × sx_C} (hg : fx_gd M (pc, ins, len, [9, 3, t], cst) 3 t = true) (h : fx_acp B fr lo S w = some q) : (∃ c0, fx_look 9 w q.2.1 = some c0) ∧ ∀ {w' : sx_W} (_ : fx_le w w') (r nx k n : Nat) (L : List (Nat × sx_V)), sx_prm B fr lo M (pc, ins, len, [9, 3, t], cst) (r, L, S, w', nx, k, n) = some (r + 1, L, q.1, sx_upd q.2.2 12 w' q.2.1, nx, k, n) := by
  unfold fx_gd at hg
  split at hg
  · rw [Bool.and_eq_true] at hg; exact nomatch hg.1
  · rename_i idx hins
    have hins : ins = .invokestatic idx := hins
    subst hins
    have hg : sx_has sx_tbs t (.methodLink M.1.cls idx arraycopyName) = true := hg
    unfold fx_acp at h
    split at h
    · rename_i vn vd a1 vs src S0
      split at h
      · rename_i n9 dp sp t1 n1 zr u e1 e2 e3 e4
        cases hc : (Nat.ble 1 fr && Nat.ble 40 lo && Nat.ble (fx_sl S0) 8 && Nat.ble (dp + n9) n1) with
        | false => simp only [hc, cond_false] at h; cases h
        | true =>
          simp only [hc, cond_true] at h
          rw [fx_sl_eq] at hc
          split at h
          · rename_i a0
            split at h
            · rename_i t0 n0 zr0 u0 h0
              cases hd : (Nat.beq t0 t1 && Nat.blt t0 4 && Nat.ble (sp + n9) n0) with
              | false => simp only [hd, cond_false] at h; cases h
              | true =>
                simp only [hd, cond_true] at h
                split at h
                · rename_i u' hu
                  cases h
                  refine ⟨⟨_, e4⟩, fun {w'} hw r nx k n L => ?_⟩
                  have e4 := hw _ _ e4
                  have h0 := hw _ _ h0
                  rw [fx_prm3]
                  unfold sx_prA
                  simp only [e1, e2, e3, e4, hc, hg, Bool.and_true, cond_true, h0, hd, hu]
                · cases h
            · cases h
          · rename_i q9
            split at h
            · rename_i lq hlq
              cases hd : (Nat.beq t1 1 && Nat.ble (sp + n9) lq.length) with
              | false => simp only [hd, cond_false] at h; cases h
              | true =>
                simp only [hd, cond_true] at h
                split at h
                · rename_i u' hu
                  cases h
                  refine ⟨⟨_, e4⟩, fun {w'} hw r nx k n L => ?_⟩
                  have e4 := hw _ _ e4
                  rw [fx_prm3]
                  unfold sx_prA
                  simp only [e1, e2, e3, e4, hc, hg, Bool.and_true, cond_true, hlq, hd, hu]
                · cases h
            · cases h
      · cases h
    · cases h
  · cases hg
