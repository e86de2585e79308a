/-! an instruction in a small world and in a larger one -/
noncomputable def fx_rdu (ins : Instr) (aux : List Nat) (cst : Int) : Option fx_Rd := match ins with
  | .iaload => some (fx_ald (fun t => Nat.beq t 0) sx_intq)
  | .baload => some (fx_ald (fun t => Nat.beq t 1 || Nat.beq t 2) sx_bytq)
  | .aaload => some (fx_ald (fun t => Nat.ble 5 t && Nat.blt t 13) (fun _ => none))
  | .laload => some (fx_ald (fun t => Nat.beq t 4) (fun _ => none))
  | .caload => some (fx_ald (fun t => Nat.beq t 3) (fun _ => none))
  | .arraylength => some fx_aln
  | .getfield _ => some (fx_getf aux)
  | .checkcast _ => some (fx_cst false aux)
  | .instanceof _ => some (fx_cst true aux)
  | .ldc _ => some (fx_cn (fx_ldc aux cst))
  | .ldc_w _ => some (fx_cn (fx_ldc aux cst))
  | .ldc2_w _ => some (fx_cn (fx_ldc aux cst))
  | .getstatic _ => some (fx_cn (fx_gst aux))
  | _ => none
noncomputable def fx_wru (I : Nat → Bool) (ins : Instr) (aux : List Nat) : Option fx_Wr := match ins with
  | .iastore => some (fx_ast (fun t => bif Nat.beq t 0 then some 0 else none))
  | .bastore => some (fx_ast sx_bkt)
  | .castore => some (fx_ast (fun t => bif Nat.beq t 3 then some 3 else none))
  | .lastore => some fx_asl
  | .aastore => some (fx_asq I)
  | .putfield _ => some (fx_putf aux)
  | _ => none
noncomputable def fx_nwu (ins : Instr) (aux : List Nat) : Option fx_Nw := match ins with
  | .new _ => some (fx_new aux)
  | .newarray _ => some (fx_nwa aux)
  | .anewarray _ => some (fx_nwa aux)
  | _ => none
theorem fx_cn_ok {v0 : Option sx_V} {B : sx_Bs} {S S1 : List sx_V} {w : fx_W} (h : fx_cn v0 B S w = some S1) : ∃ v, v0 = some v ∧ S1 = v :: S := by
  unfold fx_cn at h
  split at h
  · cases h; exact ⟨_, rfl, rfl⟩
  · cases h
/-- neither of the kinds that come first -/
def fx_mm (ins : Instr) : Prop := (∀ (B : sx_Bs) (mx : Nat) (L : List (Nat × sx_V)) (S : List sx_V), sx_pure B mx ins L S = none) ∧ (∀ (B : sx_Bs) (S : List sx_V), sx_jmp B ins S = none) ∧ fx_su ins = false
theorem fx_rdu_mm {ins : Instr} {aux : List Nat} {cst : Int} {g : fx_Rd} (h : fx_rdu ins aux cst = some g) : fx_mm ins := by
  cases ins <;> first
    | (exact ⟨fun _ _ _ _ => rfl, fun _ _ => rfl, rfl⟩)
    | (exact nomatch h)
theorem fx_wru_mm {I : Nat → Bool} {ins : Instr} {aux : List Nat} {g : fx_Wr} (h : fx_wru I ins aux = some g) : fx_mm ins := by
  cases ins <;> first
    | (exact ⟨fun _ _ _ _ => rfl, fun _ _ => rfl, rfl⟩)
    | (exact nomatch h)
theorem fx_nwu_mm {ins : Instr} {aux : List Nat} {g : fx_Nw} (h : fx_nwu ins aux = some g) : fx_mm ins := by
  cases ins <;> first
    | (exact ⟨fun _ _ _ _ => rfl, fun _ _ => rfl, rfl⟩)
    | (exact nomatch h)
theorem fx_or1 {α : Type} {a : Option α} {x : α} (h : sx_or a none = some x) : a = some x := by
  cases a with
  | none => cases h
  | some y => exact h
theorem fx_aldx0 (L : List (Nat × sx_V)) (S : List sx_V) (w : sx_W) (nx : Nat) : sx_aldx (fun _ => none) L S w nx = none := by
  unfold sx_aldx
  split
  · rfl
  · rfl
theorem fx_rdu_ok {ins : Instr} {aux : List Nat} {cst : Int} {g : fx_Rd} (hg : fx_rdu ins aux cst = some g) {B : sx_Bs} {S S1 : List sx_V} {w : fx_W} (h : g B S w = some S1) {w' : sx_W} (hw : fx_le w w') (L : List (Nat × sx_V)) (nx : Nat) : sx_mem B ins aux cst L S w' nx = some (L, S1, w', nx, 0, 0) := by
  have one : ∀ {tk : Nat → Bool}, fx_ald tk (fun _ => none) B S w = some S1 → sx_ald tk L S w' nx = some (L, S1, w', nx, 0, 0) := fun {tk} h9 => by
    have := fx_ald_ok h9 hw L nx
    rw [fx_aldx0] at this
    exact fx_or1 this
  have cn : ∀ {v0 : Option sx_V}, fx_cn v0 B S w = some S1 → ∃ v, v0 = some v ∧ S1 = v :: S := fun h9 => fx_cn_ok h9
  cases ins <;> first
    | (cases hg; exact fx_ald_ok h hw L nx)
    | (cases hg; exact one h)
    | (cases hg; exact fx_aln_ok h hw L nx)
    | (cases hg; exact fx_getf_ok h hw L nx)
    | (cases hg; exact fx_cst_ok h hw L nx)
    | (cases hg; obtain ⟨v, h1, rfl⟩ := cn h; exact fx_ldc_ok h1 L S w' nx)
    | (cases hg; obtain ⟨v, h1, rfl⟩ := cn h; exact fx_gst_ok h1 L S w' nx)
    | (exact nomatch hg)
theorem fx_wru_ok {I : Nat → Bool} {ins : Instr} {aux : List Nat} {g : fx_Wr} (hg : fx_wru I ins aux = some g) {B : sx_Bs} {S : List sx_V} {q : List sx_V × Nat × sx_C} {w : fx_W} (h : g B S w = some q) : (∃ c0, fx_look 9 w q.2.1 = some c0) ∧ ∀ {w' : sx_W} (_ : fx_le w w') (_ : fx_pr I w') (cst : Int) (L : List (Nat × sx_V)) (nx : Nat), sx_mem B ins aux cst L S w' nx = some (L, q.1, sx_upd q.2.2 12 w' q.2.1, nx, 0, 0) := by
  cases ins <;> first
    | (cases hg; exact ⟨(fx_ast_ok h).1, fun hw _ _ L nx => (fx_ast_ok h).2 hw L nx⟩)
    | (cases hg; exact ⟨(fx_asl_ok h).1, fun hw _ _ L nx => (fx_asl_ok h).2 hw L nx⟩)
    | (cases hg; exact ⟨(fx_asq_ok h).1, fun hw hI _ L nx => (fx_asq_ok h).2 hw hI L nx⟩)
    | (cases hg; exact ⟨(fx_putf_ok h).1, fun hw _ _ L nx => (fx_putf_ok h).2 hw L nx⟩)
    | (exact nomatch hg)
theorem fx_nwu_ok {ins : Instr} {aux : List Nat} {g : fx_Nw} (hg : fx_nwu ins aux = some g) {S : List sx_V} {q : List sx_V × sx_C × Nat} (h : g S = some q) (B : sx_Bs) (cst : Int) (L : List (Nat × sx_V)) (w' : sx_W) (nx : Nat) : sx_mem B ins aux cst L S w' nx = some (L, sx_id nx :: q.1, sx_upd q.2.1 12 w' nx, nx + 1, 1, q.2.2) := by
  cases ins <;> first
    | (cases hg; exact fx_new_ok h L w' nx)
    | (cases hg; exact fx_nwa_ok h L w' nx)
    | (exact nomatch hg)
/-- how the worlds before and behind go together -/
def fx_go (w : fx_W) (nx : Nat) (w' : sx_W) (w1 : fx_W) (nx1 : Nat) (w1' : sx_W) : Prop := fx_le w1 w1' ∧ (∀ i, i < nx → fx_look 9 w i = none → fx_look 9 w1 i = none ∧ sx_look 12 w1' i = sx_look 12 w' i) ∧ nx ≤ nx1
def fx_pm (I : Nat → Bool) (w : fx_W) (nx : Nat) (w' : sx_W) : Prop := ∀ j, I j = true → j < nx ∧ fx_look 9 w j = none ∧ ∃ fs, sx_look 12 w' j = some (.inl (6, fs))
theorem fx_pm.pr {I : Nat → Bool} {w : fx_W} {nx : Nat} {w' : sx_W} (h : fx_pm I w nx w') : fx_pr I w' := fun j hj => (h j hj).2.2
theorem fx_pm.go {I : Nat → Bool} {w w1 : fx_W} {nx nx1 : Nat} {w' w1' : sx_W} (h : fx_pm I w nx w') (hg : fx_go w nx w' w1 nx1 w1') : fx_pm I w1 nx1 w1' := fun j hj => by
  obtain ⟨h1, h2, fs, h3⟩ := h j hj
  obtain ⟨a1, a2⟩ := hg.2.1 j h1 h2
  exact ⟨Nat.lt_of_lt_of_le h1 hg.2.2, a1, fs, by rw [a2]; exact h3⟩
theorem fx_go.rf {w : fx_W} {nx : Nat} {w' : sx_W} (h : fx_le w w') : fx_go w nx w' w nx w' := ⟨h, fun _ _ h9 => ⟨h9, rfl⟩, Nat.le_refl _⟩
theorem fx_go.tr {w w1 w2 : fx_W} {nx nx1 nx2 : Nat} {w' w1' w2' : sx_W} (h1 : fx_go w nx w' w1 nx1 w1') (h2 : fx_go w1 nx1 w1' w2 nx2 w2') : fx_go w nx w' w2 nx2 w2' := ⟨h2.1, fun i hi hn => by
  obtain ⟨a1, a2⟩ := h1.2.1 i hi hn
  obtain ⟨b1, b2⟩ := h2.2.1 i (Nat.lt_of_lt_of_le hi h1.2.2) a1
  exact ⟨b1, b2.trans a2⟩, Nat.le_trans h1.2.2 h2.2.2⟩
theorem fx_upd_le {w : fx_W} {w' : sx_W} (h : fx_le w w') (c : sx_C) (a : Nat) : fx_le (fx_upd c 9 w a) (sx_upd c 12 w' a) := by
  intro i c9 hi
  rw [fx_look_eq, fx_upd_eq] at hi
  have hlt := sx_look_lt 9 hi
  by_cases e : i = a
  · subst e
    rw [sx_look_updS 9 hlt] at hi
    cases hi
    exact sx_look_updS 12 (Nat.lt_trans hlt (by decide))
  · rw [sx_look_updN 9 e] at hi
    rw [sx_look_updN 12 e]
    exact h i c9 (by rw [fx_look_eq]; exact hi)
theorem fx_look_updN {w : fx_W} {c : sx_C} {a i : Nat} (h : i ≠ a) : fx_look 9 (fx_upd c 9 w a) i = fx_look 9 w i := by
  rw [fx_look_eq, fx_look_eq, fx_upd_eq, sx_look_updN 9 h]
/-- of the old ids one that is known is written -/
theorem fx_go.wr {w : fx_W} {nx : Nat} {w' : sx_W} (h : fx_le w w') {c c0 : sx_C} {a : Nat} (ha : fx_look 9 w a = some c0) : fx_go w nx w' (fx_upd c 9 w a) nx (sx_upd c 12 w' a) := ⟨fx_upd_le h c a, fun i _ hn => by
  have e : i ≠ a := fun e => by rw [e, ha] at hn; cases hn
  exact ⟨(fx_look_updN e).trans hn, sx_look_updN 12 e⟩, Nat.le_refl _⟩
theorem fx_go.nw {w : fx_W} {nx : Nat} {w' : sx_W} (h : fx_le w w') {c : sx_C} : fx_go w nx w' (fx_upd c 9 w nx) (nx + 1) (sx_upd c 12 w' nx) := ⟨fx_upd_le h c nx, fun i hi hn => by
  have e : i ≠ nx := by omega
  exact ⟨(fx_look_updN e).trans hn, sx_look_updN 12 e⟩, Nat.le_succ _⟩
noncomputable def fx_op (I : Nat → Bool) (ins : Instr) (aux : List Nat) (cst : Int) : fx_Fn := match fx_pu ins with
  | some g => fx_p g
  | none => (match fx_ju ins with
    | some g => fx_j (aux.headD 0) g
    | none => bif fx_su ins then fx_s (sx_swi ins aux) else (match fx_rdu ins aux cst with
      | some g => fx_r g
      | none => (match fx_wru I ins aux with
        | some g => fx_w g
        | none => (match fx_nwu ins aux with
          | some g => fx_n g
          | none => fx_no))))
theorem fx_op_ok {I : Nat → Bool} {ins : Instr} {aux : List Nat} {cst : Int} {K : fx_K} {B : sx_Bs} {mx r nx k n : Nat} {L : List (Nat × sx_V)} {S : List sx_V} {w : fx_W} {c1 : fx_S} (h : fx_op I ins aux cst K B mx r L S w nx k n = some c1) :
    ∃ (r1 : Nat) (L1 : List (Nat × sx_V)) (S1 : List sx_V) (w1 : fx_W) (nx1 k1 n1 : Nat), K r1 L1 S1 w1 nx1 k1 n1 = some c1 ∧ ∀ (w' : sx_W), fx_le w w' → fx_pm I w nx w' → ∀ (pc len : Nat), ∃ w1', sx_step1 B mx (pc, ins, len, aux, cst) (r, L, S, w', nx, k, n) = some (r1, L1, S1, w1', nx1, k1, n1) ∧ fx_go w nx w' w1 nx1 w1' := by
  unfold fx_op at h
  cases hg : fx_pu ins with
  | some g =>
    rw [hg] at h
    have h : fx_p g K B mx r L S w nx k n = some c1 := h
    unfold fx_p at h
    cases hq : g B mx L S with
    | none => rw [hq] at h; cases h
    | some q =>
      rw [hq] at h
      rw [fx_pu_ok hg] at hq
      refine ⟨_, _, _, _, _, _, _, h, fun w' hw hI pc len => ⟨w', ?_, fx_go.rf hw⟩⟩
      unfold sx_step1
      simp only [hq]
  | none =>
    rw [hg] at h
    cases hj : fx_ju ins with
    | some g =>
      rw [hj] at h
      have h : fx_j (aux.headD 0) g K B mx r L S w nx k n = some c1 := h
      obtain ⟨g1, g2⟩ := fx_ju_ok hj
      unfold fx_j at h
      cases hq : g B S with
      | none => rw [hq] at h; cases h
      | some q =>
        rw [hq] at h
        rw [g2] at hq
        refine ⟨_, _, _, _, _, _, _, h, fun w' hw hI pc len => ⟨w', ?_, fx_go.rf hw⟩⟩
        unfold sx_step1
        simp only [g1, hq]
        cases q.2 <;> rfl
    | none =>
      rw [hj] at h
      cases hs : fx_su ins with
      | true =>
        rw [hs] at h
        have h : fx_s (sx_swi ins aux) K B mx r L S w nx k n = some c1 := h
        obtain ⟨g1, g2⟩ := fx_su_ok hs
        unfold fx_s at h
        split at h
        · rename_i q hq
          refine ⟨_, _, _, _, _, _, _, h, fun w' hw hI pc len => ⟨w', ?_, fx_go.rf hw⟩⟩
          unfold sx_step1
          simp only [g1, g2, hq]
        · cases h
      | false =>
        rw [hs] at h
        have hsw := fx_swN hs aux S
        cases hr : fx_rdu ins aux cst with
        | some g =>
          rw [hr] at h
          have h : fx_r g K B mx r L S w nx k n = some c1 := h
          obtain ⟨m1, m2, -⟩ := fx_rdu_mm hr
          unfold fx_r at h
          cases hq : g B S w with
          | none => rw [hq] at h; cases h
          | some q =>
            rw [hq] at h
            refine ⟨_, _, _, _, _, _, _, h, fun w' hw hI pc len => ⟨w', ?_, fx_go.rf hw⟩⟩
            have := fx_rdu_ok hr hq hw L nx
            unfold sx_step1
            simp only [m1, m2, hsw, this]
            rfl
        | none =>
          rw [hr] at h
          cases hw9 : fx_wru I ins aux with
          | some g =>
            rw [hw9] at h
            have h : fx_w g K B mx r L S w nx k n = some c1 := h
            obtain ⟨m1, m2, -⟩ := fx_wru_mm hw9
            unfold fx_w at h
            cases hq : g B S w with
            | none => rw [hq] at h; cases h
            | some q =>
              rw [hq] at h
              obtain ⟨⟨c0, hc0⟩, a2⟩ := fx_wru_ok hw9 hq
              refine ⟨_, _, _, _, _, _, _, h, fun w' hw hI pc len => ⟨sx_upd q.2.2 12 w' q.2.1, ?_, fx_go.wr hw hc0⟩⟩
              have := a2 hw hI.pr cst L nx
              unfold sx_step1
              simp only [m1, m2, hsw, this]
              rfl
          | none =>
            rw [hw9] at h
            cases hn9 : fx_nwu ins aux with
            | some g =>
              rw [hn9] at h
              have h : fx_n g K B mx r L S w nx k n = some c1 := h
              obtain ⟨m1, m2, -⟩ := fx_nwu_mm hn9
              unfold fx_n at h
              split at h
              · rename_i q hq
                refine ⟨_, _, _, _, _, _, _, h, fun w' hw hI pc len => ⟨sx_upd q.2.1 12 w' nx, ?_, fx_go.nw hw⟩⟩
                have := fx_nwu_ok hn9 hq B cst L w' nx
                unfold sx_step1
                simp only [m1, m2, hsw, this]
              · cases h
            | none =>
              rw [hn9] at h
              have h : (none : Option fx_S) = some c1 := h
              cases h
