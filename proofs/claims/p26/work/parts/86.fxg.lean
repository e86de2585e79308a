/-! words, rows that grow, rows emptied; whole runs -/
noncomputable def fx_hW (B : sx_Bs) (aux : List Nat) (fr lo : Nat) (S : List sx_V) (w : fx_W) : Option (List sx_V) := match fx_prep sx_pg aux S w with
  | some q => bif Nat.ble 6 fr && Nat.ble 136 lo && Nat.ble (fx_sl q.2.2) 8 then (match q.2.1 with
    | [.inr (.inr (some (.inr lq))), .inr (.inr (some (.inl a))), .inl (.inl (.ofNat f, [])), .inl (.inl (.ofNat n, []))] => (match fx_tab lq, fx_look 9 w a with
      | some T, some (.inr (t, N9, _, u)) => bif Nat.beq t 1 && Nat.beq N9 8000 && Nat.ble (f + n) 8000 && Nat.blt n 21 then (match fx_wl (fx_by B u f) (T n) with
        | some r => some (.inl (.inl (sx_c r)) :: q.2.2)
        | none => none) else none
      | _, _ => none)
    | _ => none) else none
  | none => none
theorem fx_inv {ins : Instr} (h : sx_isinv ins = true) (B : sx_Bs) (mx : Nat) (pc len : Nat) (aux : List Nat) (cst : Int) (c : sx_S) : sx_step1 B mx (pc, ins, len, aux, cst) c = none := by
  obtain ⟨r, L, S, w, nx, k, n⟩ := c
  have key : (∀ (L : List (Nat × sx_V)) (S : List sx_V), sx_pure B mx ins L S = none) ∧ (∀ (S : List sx_V), sx_jmp B ins S = none) ∧ fx_su ins = false ∧ ∀ (L : List (Nat × sx_V)) (S : List sx_V) (w : sx_W) (nx : Nat), sx_mem B ins aux cst L S w nx = none := by
    cases ins <;> first
      | (exact ⟨fun _ _ => rfl, fun _ => rfl, rfl, fun _ _ _ _ => rfl⟩)
      | (exact nomatch h)
  obtain ⟨h1, h2, h3, h4⟩ := key
  unfold sx_step1
  simp only [h1, h2, fx_swN h3, h4]
theorem fx_hkn_at {aux : List Nat} {v : Nat} (hv : v < 1000) (hv0 : v ≠ 0) (h : fx_hkn aux = v) : ∃ kd tl, aux = kd :: v :: tl ∧ Nat.beq kd 9 = false := by
  unfold fx_hkn at h
  split at h
  · rename_i kd m tl
    cases h9 : Nat.beq kd 9 with
    | true => rw [h9, cond_true] at h; omega
    | false =>
      rw [h9, cond_false] at h
      refine ⟨kd, tl, ?_, h9⟩
      cases h1 : Nat.beq m 1 with
      | true => rw [h1, cond_true] at h; rw [Nat.eq_of_beq_eq_true h1, h]
      | false =>
        rw [h1, cond_false] at h
        cases h8 : Nat.beq m 8 with
        | true => rw [h8, cond_true] at h; rw [Nat.eq_of_beq_eq_true h8, h]
        | false =>
          rw [h8, cond_false] at h
          cases ha : Nat.beq m 9 with
          | true => rw [ha, cond_true] at h; rw [Nat.eq_of_beq_eq_true ha, h]
          | false =>
            rw [ha, cond_false] at h
            cases hb : Nat.beq m 228 with
            | true => rw [hb, cond_true] at h; rw [Nat.eq_of_beq_eq_true hb, h]
            | false => rw [hb, cond_false] at h; exact absurd h.symm hv0
  · exact absurd h.symm hv0
theorem fx_prep9 {v : Nat} (hv : sx_p9 v = none) {kd : Nat} {tl : List Nat} (pc len : Nat) (ins : Instr) (cst : Int) (c : sx_S) : sx_prep sx_p9 (pc, ins, len, kd :: v :: tl, cst) c = none := by
  unfold sx_prep
  cases sx_isinv ins with
  | false => rfl
  | true =>
    simp only [Bool.not_true, cond_false]
    split
    · rename_i kd' mj n ci tl' e
      have e : kd :: v :: tl = kd' :: mj :: n :: ci :: tl' := e
      cases e
      rw [hv]
    · rfl
theorem fx_pra_at {B : sx_Bs} {v kd : Nat} {tl : List Nat} (h9 : Nat.beq kd 9 = false) {ins : Instr} (hi : sx_isinv ins = true) (pc len : Nat) (cst : Int) : sx_hkn (pc, ins, len, kd :: v :: tl, cst) = v := by
  unfold sx_hkn
  simp only [hi, cond_true, h9, cond_false]
theorem fx_hW_ok {B : sx_Bs} {aux : List Nat} {fr lo : Nat} {S S1 : List sx_V} {w : fx_W} (h : fx_hW B aux fr lo S w = some S1) (hk : fx_hkn aux = 1) {ins : Instr} (hi : sx_isinv ins = true) {w' : sx_W} (hw : fx_le w w') (M : sx_M) (pc len : Nat) (cst : Int) (r nx k n : Nat) (L : List (Nat × sx_V)) : sx_pra B fr lo M (pc, ins, len, aux, cst) (r, L, S, w', nx, k, n) = some (r + 1, L, S1, w', nx, k, n) := by
  obtain ⟨kd, tl, rfl, h9⟩ := fx_hkn_at (by decide) (by decide) hk
  unfold fx_hW at h
  split at h
  · rename_i q hq
    have hq := fx_prep_ok hq hw hi pc len cst r nx k n L
    obtain ⟨M', vs, S'⟩ := q
    cases hc : (Nat.ble 6 fr && Nat.ble 136 lo && Nat.ble (fx_sl S') 8) with
    | false => simp only [hc, cond_false] at h; cases h
    | true =>
      simp only [hc, cond_true] at h
      rw [fx_sl_eq] at hc
      split at h
      · rename_i lq a f n9 hvs
        split at h
        · rename_i T t N9 zr u hT ha
          cases hd : (Nat.beq t 1 && Nat.beq N9 8000 && Nat.ble (f + n9) 8000 && Nat.blt n9 21) with
          | false => simp only [hd, cond_false] at h; cases h
          | true =>
            simp only [hd, cond_true] at h
            split at h
            · rename_i rr hrr
              cases h
              have ha := hw _ _ ha
              rw [Bool.and_eq_true] at hd
              have hn : n9 < 21 := Nat.le_of_ble_eq_true hd.2
              obtain ⟨N, hN, hwk⟩ := fx_tab_ok hT (sx_by B u f) hn
              rw [fx_by_eq, ← hwk] at hrr
              have hd2 : (Nat.beq t 1 && Nat.beq N9 8000 && Nat.ble (f + n9) 8000 && Nat.ble n9 1000) = true := by
                rw [Bool.and_eq_true]
                exact ⟨hd.1, Nat.ble_eq_true_of_le (by omega)⟩
              unfold sx_pra
              rw [fx_pra_at (B := B) h9 hi]
              show sx_prW B fr lo M (pc, ins, len, kd :: 1 :: tl, cst) (r, L, S, w', nx, k, n) = _
              unfold sx_prW
              show (bif Nat.beq 1 1 then _ else _) = _
              simp only [hq, hc, cond_true, hN, ha, hd2, hrr, show Nat.beq 1 1 = true from rfl]
            · cases h
        · cases h
      · cases h
  · cases h
noncomputable def fx_ckq (I : Nat → Bool) (w : fx_W) (n : Nat) (q : Nat × sx_V) : Bool := Nat.blt q.1 n && (match q.2 with
  | .inr (.inr none) => true
  | .inr (.inr (some (.inl j))) => (match fx_look 9 w j with
    | some (.inl o) => Nat.beq o.1 6
    | _ => I j)
  | _ => false)
theorem fx_ckq_ok {I : Nat → Bool} {w : fx_W} {n : Nat} {q : Nat × sx_V} (h : fx_ckq I w n q = true) {w' : sx_W} (hw : fx_le w w') (hI : fx_pr I w') : sx_ckq w' n q = true := by
  unfold fx_ckq at h
  unfold sx_ckq
  rw [Bool.and_eq_true] at h ⊢
  refine ⟨h.1, ?_⟩
  have h := h.2
  obtain ⟨i, v⟩ := q
  match v, h with
  | .inl _, h => cases h
  | .inr (.inl _), h => cases h
  | .inr (.inr none), h => rfl
  | .inr (.inr (some (.inr _))), h => cases h
  | .inr (.inr (some (.inl j))), h =>
    have h : (match fx_look 9 w j with
      | some (.inl o) => Nat.beq o.1 6
      | _ => I j) = true := h
    split at h
    · rename_i o ho
      obtain ⟨cj, fs⟩ := o
      have ho := hw _ _ ho
      show (match sx_look 12 w' j with
        | some (.inl (ci, _)) => Nat.beq ci 6
        | _ => false) = true
      rw [ho]
      exact h
    · obtain ⟨fs, hfs⟩ := hI j h
      show (match sx_look 12 w' j with
        | some (.inl (ci, _)) => Nat.beq ci 6
        | _ => false) = true
      rw [hfs]
      rfl
noncomputable def fx_hQ (I : Nat → Bool) (aux : List Nat) (fr lo : Nat) (S : List sx_V) (w : fx_W) : Option (List sx_V × sx_C × Nat) := match fx_prep sx_pg aux S w with
  | some q => bif Nat.ble 3 fr && Nat.ble 111 lo && Nat.ble (fx_sl q.2.2) 8 then (match q.2.1 with
    | [.inr (.inr (some (.inl a))), .inl (.inl (.ofNat k9, []))] => (match fx_look 9 w a with
      | some (.inr (t, n9, true, u)) => bif Nat.beq t 11 && Nat.ble n9 k9 && Nat.ble k9 1000000 && u.all (fx_ckq I w n9) then some (q.2.2, .inr (11, k9, true, u), k9) else none
      | _ => none)
    | _ => none) else none
  | none => none
theorem fx_hQ_ok {I : Nat → Bool} {B : sx_Bs} {aux : List Nat} {fr lo : Nat} {S : List sx_V} {w : fx_W} {q : List sx_V × sx_C × Nat} (h : fx_hQ I aux fr lo S w = some q) (hk : fx_hkn aux = 228) {ins : Instr} (hi : sx_isinv ins = true) {w' : sx_W} (hw : fx_le w w') (hI : fx_pr I w') (M : sx_M) (pc len : Nat) (cst : Int) (r nx k n : Nat) (L : List (Nat × sx_V)) : sx_pra B fr lo M (pc, ins, len, aux, cst) (r, L, S, w', nx, k, n) = some (r + 1, L, sx_id nx :: q.1, sx_upd q.2.1 12 w' nx, nx + 1, k + 1, n + q.2.2) := by
  obtain ⟨kd, tl, rfl, h9⟩ := fx_hkn_at (by decide) (by decide) hk
  unfold fx_hQ at h
  split at h
  · rename_i q0 hq
    have hq := fx_prep_ok hq hw hi pc len cst r nx k n L
    obtain ⟨M', vs, S'⟩ := q0
    cases hc : (Nat.ble 3 fr && Nat.ble 111 lo && Nat.ble (fx_sl S') 8) with
    | false => simp only [hc, cond_false] at h; cases h
    | true =>
      simp only [hc, cond_true] at h
      rw [fx_sl_eq] at hc
      split at h
      · rename_i a k9 hvs
        split at h
        · rename_i t n9 u ha
          cases hd : (Nat.beq t 11 && Nat.ble n9 k9 && Nat.ble k9 1000000 && u.all (fx_ckq I w n9)) with
          | false => simp only [hd, cond_false] at h; cases h
          | true =>
            simp only [hd, cond_true] at h
            cases h
            have ha := hw _ _ ha
            rw [Bool.and_eq_true] at hd
            have hd2 : (Nat.beq t 11 && Nat.ble n9 k9 && Nat.ble k9 1000000 && u.all (sx_ckq w' n9)) = true := by
              rw [Bool.and_eq_true]
              exact ⟨hd.1, List.all_eq_true.mpr fun x hx => fx_ckq_ok (List.all_eq_true.mp hd.2 x hx) hw hI⟩
            unfold sx_pra
            rw [fx_pra_at (B := B) h9 hi]
            show sx_prQ fr lo M (pc, ins, len, kd :: 228 :: tl, cst) (r, L, S, w', nx, k, n) = _
            unfold sx_prQ
            show (bif Nat.beq 228 228 then _ else _) = _
            simp only [hq, hc, cond_true, ha, hd2, show Nat.beq 228 228 = true from rfl]
        · cases h
      · cases h
  · cases h
noncomputable def fx_hF (aux : List Nat) (fr lo : Nat) (S : List sx_V) (w : fx_W) : Option (List sx_V × Nat × sx_C) := match fx_prep sx_pg aux S w with
  | some q => bif Nat.ble 2 fr && Nat.ble 90 lo && Nat.ble (fx_sl q.2.2) 8 then (match q.2.1 with
    | [.inr (.inr (some (.inl a))), .inl (.inl (.ofNat 0, []))] => (match fx_look 9 w a with
      | some (.inr (0, n9, true, u)) => bif Nat.ble n9 1000000 && u.all (fun q => Nat.blt q.1 n9) then some (q.2.2, a, .inr (0, n9, true, [])) else none
      | _ => none)
    | _ => none) else none
  | none => none
theorem fx_hF_ok {B : sx_Bs} {aux : List Nat} {fr lo : Nat} {S : List sx_V} {w : fx_W} {q : List sx_V × Nat × sx_C} (h : fx_hF aux fr lo S w = some q) (hk : fx_hkn aux = 9) {ins : Instr} (hi : sx_isinv ins = true) : (∃ c0, fx_look 9 w q.2.1 = some c0) ∧ ∀ {w' : sx_W} (_ : fx_le w w') (M : sx_M) (pc len : Nat) (cst : Int) (r nx k n : Nat) (L : List (Nat × sx_V)), sx_pra B fr lo M (pc, ins, len, aux, cst) (r, L, S, w', nx, k, n) = some (r + 1, L, q.1, sx_upd q.2.2 12 w' q.2.1, nx, k, n) := by
  obtain ⟨kd, tl, rfl, h9⟩ := fx_hkn_at (by decide) (by decide) hk
  unfold fx_hF at h
  split at h
  · rename_i q0 hq
    obtain ⟨M', vs, S'⟩ := q0
    cases hc : (Nat.ble 2 fr && Nat.ble 90 lo && Nat.ble (fx_sl S') 8) with
    | false => simp only [hc, cond_false] at h; cases h
    | true =>
      simp only [hc, cond_true] at h
      rw [fx_sl_eq] at hc
      split at h
      · rename_i a hvs
        split at h
        · rename_i n9 u ha
          cases hd : (Nat.ble n9 1000000 && u.all (fun q => Nat.blt q.1 n9)) with
          | false => simp only [hd, cond_false] at h; cases h
          | true =>
            simp only [hd, cond_true] at h
            cases h
            refine ⟨⟨_, ha⟩, fun {w'} hw M pc len cst r nx k n L => ?_⟩
            have hq := fx_prep_ok hq hw hi pc len cst r nx k n L
            have ha := hw _ _ ha
            unfold sx_pra
            rw [fx_pra_at (B := B) h9 hi]
            show sx_prF fr lo M (pc, ins, len, kd :: 9 :: tl, cst) (r, L, S, w', nx, k, n) = _
            unfold sx_prF
            show (bif Nat.beq 9 9 then _ else _) = _
            simp only [hq, hc, cond_true, ha, hd, show Nat.beq 9 9 = true from rfl]
        · cases h
      · cases h
  · cases h
