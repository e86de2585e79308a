/-! reading and writing the world -/
noncomputable def fx_elt (t : Nat) (zr : Bool) (u : List (Nat × sx_V)) (k : Nat) : Option sx_V := match fx_lk u k with
  | some v => some v
  | none => bif zr then (bif Nat.blt t 4 then some (sx_int 0) else bif Nat.beq t 4 then some (.inr (.inl (sx_c 0))) else some sx_nul) else (bif Nat.blt t 4 then some (.inl sx_full) else none)
theorem fx_elt_eq (t : Nat) (zr : Bool) (u : List (Nat × sx_V)) (k : Nat) : fx_elt t zr u k = sx_elt t zr u k := by unfold fx_elt sx_elt; rw [fx_lk_eq]; rfl
/-- more is known of the larger world -/
def fx_le (w : fx_W) (w' : sx_W) : Prop := ∀ (i : Nat) (c : sx_C), fx_look 9 w i = some c → sx_look 12 w' i = some c
noncomputable def fx_ald (tk : Nat → Bool) (f : Nat → Option (List Nat)) : fx_Rd := fun _ S w => match S with
  | .inl i :: .inr (.inr (some (.inl a))) :: S => (match fx_look 9 w a with
    | some (.inr x) => bif tk x.1 then (match sx_ix x.2.1 i with
      | some k => (match fx_elt x.1 x.2.2.1 x.2.2.2 k with
        | some v => some (v :: S)
        | none => none)
      | none => none) else none
    | _ => none)
  | .inl i :: .inr (.inr (some (.inr q))) :: S => (match f q with
    | some l => (match sx_ix l.length i with
      | some k => (match fx_nth l k with
        | some v => some (sx_int (.ofNat v) :: S)
        | none => none)
      | none => none)
    | none => none)
  | _ => none
theorem fx_ald_ok {tk : Nat → Bool} {f : Nat → Option (List Nat)} {B : sx_Bs} {S S1 : List sx_V} {w : fx_W} (h : fx_ald tk f B S w = some S1) {w' : sx_W} (hw : fx_le w w') (L : List (Nat × sx_V)) (nx : Nat) : sx_or (sx_ald tk L S w' nx) (sx_aldx f L S w' nx) = some (L, S1, w', nx, 0, 0) := by
  unfold fx_ald at h
  split at h
  · rename_i i a S0
    split at h
    · rename_i x hx
      obtain ⟨t, n, zr, u⟩ := x
      have hx := hw _ _ hx
      cases ht : tk t with
      | false => simp only [ht, cond_false] at h; cases h
      | true =>
        simp only [ht, cond_true] at h
        split at h
        · rename_i k hk
          split at h
          · rename_i v hv
            cases h
            rw [fx_elt_eq] at hv
            unfold sx_ald
            simp only [hx, ht, cond_true, hk, hv]
            rfl
          · cases h
        · cases h
    · cases h
  · rename_i i q S0
    split at h
    · rename_i l hl
      split at h
      · rename_i k hk
        split at h
        · rename_i v hv
          cases h
          rw [fx_nth_eq] at hv
          unfold sx_aldx
          simp only [hl, hk, hv]
          rfl
        · cases h
      · cases h
    · cases h
  · cases h
noncomputable def fx_aln : fx_Rd := fun _ S w => match S with
  | .inr (.inr (some (.inl a))) :: S => (match fx_look 9 w a with
    | some (.inr x) => bif Nat.blt x.1 13 then some (sx_int (.ofNat x.2.1) :: S) else none
    | _ => none)
  | .inr (.inr (some (.inr q))) :: S => (match q with
    | 0 => some (sx_int 0 :: S)
    | q => (match sx_or (sx_intq q) (sx_bytq q) with
      | some l => some (sx_int (.ofNat l.length) :: S)
      | none => none))
  | _ => none
theorem fx_aln_ok {B : sx_Bs} {S S1 : List sx_V} {w : fx_W} (h : fx_aln B S w = some S1) {w' : sx_W} (hw : fx_le w w') (L : List (Nat × sx_V)) (nx : Nat) : sx_alen L S w' nx = some (L, S1, w', nx, 0, 0) := by
  unfold fx_aln at h
  split at h
  · rename_i a S0
    split at h
    · rename_i x hx
      obtain ⟨t, n, zr, u⟩ := x
      have hx := hw _ _ hx
      cases ht : Nat.blt t 13 with
      | false => simp only [ht, cond_false] at h; cases h
      | true =>
        simp only [ht, cond_true] at h
        cases h
        unfold sx_alen
        simp only [hx, ht, cond_true]
    · cases h
  · rename_i q S0
    split at h
    · cases h
      rfl
    · rename_i q0
      split at h
      · rename_i l hl
        cases h
        match q, q0, hl with
        | 0, q0, _ => exact (q0 rfl).elim
        | q + 1, _, hl =>
          show (match sx_or (sx_intq (q + 1)) (sx_bytq (q + 1)) with
            | some l => some (L, sx_int (.ofNat l.length) :: S0, w', nx, 0, 0)
            | none => none) = _
          rw [hl]
      · cases h
  · cases h
noncomputable def fx_getf (aux : List Nat) : fx_Rd := match aux with
  | [_, ci, k, _, _, _] => fun _ S w => (match S with
    | .inr (.inr (some (.inl a))) :: S => (match fx_look 9 w a with
      | some (.inl o) => bif Nat.beq o.1 ci then (match fx_nth o.2 k with
        | some (some v) => some (v :: S)
        | _ => none) else none
      | _ => none)
    | _ => none)
  | _ => fun _ _ _ => none
theorem fx_getf_ok {aux : List Nat} {B : sx_Bs} {S S1 : List sx_V} {w : fx_W} (h : fx_getf aux B S w = some S1) {w' : sx_W} (hw : fx_le w w') (L : List (Nat × sx_V)) (nx : Nat) : sx_getf aux L S w' nx = some (L, S1, w', nx, 0, 0) := by
  unfold fx_getf at h
  split at h
  · rename_i mo ci k t t2 x
    try simp only at h
    split at h
    · rename_i a S0
      split at h
      · rename_i o ho
        obtain ⟨cj, fs⟩ := o
        have ho := hw _ _ ho
        cases hc : Nat.beq cj ci with
        | false => simp only [hc, cond_false] at h; cases h
        | true =>
          simp only [hc, cond_true, fx_nth_eq] at h
          split at h
          · rename_i v hv
            cases h
            unfold sx_getf
            simp only [ho, hc, cond_true, hv]
          · cases h
      · cases h
    · cases h
  · cases h
noncomputable def fx_cst (ins1 : Bool) (aux : List Nat) : fx_Rd := match aux with
  | [ci, _, _] => fun _ S w => (match S with
    | .inr (.inr none) :: S => some ((bif ins1 then sx_int 0 else sx_nul) :: S)
    | .inr (.inr (some (.inl a))) :: S => (match fx_look 9 w a with
      | some (.inl o) => bif Nat.beq o.1 ci then some ((bif ins1 then sx_int 1 else sx_id a) :: S) else none
      | _ => none)
    | _ => none)
  | _ => fun _ _ _ => none
theorem fx_cst_ok {ins1 : Bool} {aux : List Nat} {B : sx_Bs} {S S1 : List sx_V} {w : fx_W} (h : fx_cst ins1 aux B S w = some S1) {w' : sx_W} (hw : fx_le w w') (L : List (Nat × sx_V)) (nx : Nat) : sx_cast ins1 aux L S w' nx = some (L, S1, w', nx, 0, 0) := by
  unfold fx_cst at h
  split at h
  · rename_i ci t str
    try simp only at h
    split at h
    · cases h
      rfl
    · rename_i a S0
      split at h
      · rename_i o ho
        obtain ⟨cj, fs⟩ := o
        have ho := hw _ _ ho
        cases hc : Nat.beq cj ci with
        | false => simp only [hc, cond_false] at h; cases h
        | true =>
          simp only [hc, cond_true] at h
          cases h
          unfold sx_cast
          simp only [ho, hc, cond_true]
      · cases h
    · cases h
  · cases h
/-- constants -/
noncomputable def fx_ldc (aux : List Nat) (cst : Int) : Option sx_V := match aux with
  | [0, _] => some (sx_int cst)
  | [1, _, j] => some (sx_ext (100 + 2 * j))
  | [2, _] => some (.inr (.inl (sx_c cst)))
  | _ => none
theorem fx_ldc_ok {aux : List Nat} {cst : Int} {v : sx_V} (h : fx_ldc aux cst = some v) (L : List (Nat × sx_V)) (S : List sx_V) (w' : sx_W) (nx : Nat) : sx_ldc aux cst L S w' nx = some (L, v :: S, w', nx, 0, 0) := by
  unfold fx_ldc at h
  split at h
  · cases h; rfl
  · cases h; rfl
  · cases h; rfl
  · cases h
noncomputable def fx_gst (aux : List Nat) : Option sx_V := match aux with
  | [k, _, _] => some (sx_stv k)
  | _ => none
theorem fx_gst_ok {aux : List Nat} {v : sx_V} (h : fx_gst aux = some v) (L : List (Nat × sx_V)) (S : List sx_V) (w' : sx_W) (nx : Nat) : sx_gets aux L S w' nx = some (L, v :: S, w', nx, 0, 0) := by
  unfold fx_gst at h
  split at h
  · cases h; rfl
  · cases h
noncomputable def fx_cn (v : Option sx_V) : fx_Rd := match v with
  | some v => fun _ S _ => some (v :: S)
  | none => fun _ _ _ => none
/-- writing -/
noncomputable def fx_ast (tk : Nat → Option Nat) : fx_Wr := fun B S w => match S with
  | v :: .inl i :: .inr (.inr (some (.inl a))) :: S => (match fx_look 9 w a with
    | some (.inr x) => (match tk x.1 with
      | some ft => bif sx_fit B ft v then (match sx_ix x.2.1 i with
        | some k => some (S, a, .inr (x.1, x.2.1, x.2.2.1, fx_put k v x.2.2.2))
        | none => none) else none
      | none => none)
    | _ => none)
  | _ => none
theorem fx_ast_ok {tk : Nat → Option Nat} {B : sx_Bs} {S : List sx_V} {q : List sx_V × Nat × sx_C} {w : fx_W} (h : fx_ast tk B S w = some q) : (∃ c0, fx_look 9 w q.2.1 = some c0) ∧ ∀ {w' : sx_W} (_ : fx_le w w') (L : List (Nat × sx_V)) (nx : Nat), sx_ast B tk L S w' nx = some (L, q.1, sx_upd q.2.2 12 w' q.2.1, nx, 0, 0) := by
  unfold fx_ast at h
  split at h
  · rename_i v i a S0
    split at h
    · rename_i x hx
      obtain ⟨t, n, zr, u⟩ := x
      try simp only at h
      split at h
      · rename_i ft hft
        cases hf : sx_fit B ft v with
        | false => simp only [hf, cond_false] at h; cases h
        | true =>
          simp only [hf, cond_true] at h
          split at h
          · rename_i k hk
            cases h
            refine ⟨⟨_, hx⟩, fun {w'} hw L nx => ?_⟩
            have hx := hw _ _ hx
            unfold sx_ast
            simp only [hx, hft, hf, cond_true, hk, fx_put_eq]
          · cases h
      · cases h
    · cases h
  · cases h
noncomputable def fx_asl : fx_Wr := fun _ S w => match S with
  | .inr (.inl v) :: .inl i :: .inr (.inr (some (.inl a))) :: S => (match fx_look 9 w a with
    | some (.inr x) => bif Nat.beq x.1 4 then (match sx_ix x.2.1 i with
      | some k => some (S, a, .inr (x.1, x.2.1, x.2.2.1, fx_put k (.inr (.inl v)) x.2.2.2))
      | none => none) else none
    | _ => none)
  | _ => none
theorem fx_asl_ok {B : sx_Bs} {S : List sx_V} {q : List sx_V × Nat × sx_C} {w : fx_W} (h : fx_asl B S w = some q) : (∃ c0, fx_look 9 w q.2.1 = some c0) ∧ ∀ {w' : sx_W} (_ : fx_le w w') (L : List (Nat × sx_V)) (nx : Nat), sx_asl B L S w' nx = some (L, q.1, sx_upd q.2.2 12 w' q.2.1, nx, 0, 0) := by
  unfold fx_asl at h
  split at h
  · rename_i v i a S0
    split at h
    · rename_i x hx
      obtain ⟨t, n, zr, u⟩ := x
      try simp only at h
      cases hf : Nat.beq t 4 with
      | false => simp only [hf, cond_false] at h; cases h
      | true =>
        simp only [hf, cond_true] at h
        split at h
        · rename_i k hk
          cases h
          refine ⟨⟨_, hx⟩, fun {w'} hw L nx => ?_⟩
          have hx := hw _ _ hx
          unfold sx_asl
          simp only [hx, hf, cond_true, hk, fx_put_eq]
        · cases h
    · cases h
  · cases h
/-- which class may stand in which row -/
def fx_qk (t ci : Nat) : Bool := (match vwCl[ci]?, sx_tyF[t]? with
      | some q, some (.object C) => decide (q.1 = C) || (decide (C = "java/lang/Object") && sk_nest.any (fun x => decide (x = .castable q.1 "java/lang/Object")))
      | _, _ => false)
/-- I: of these ids it is promised that they are nodes -/
noncomputable def fx_qok (I : Nat → Bool) (t : Nat) (w : fx_W) (v : sx_F) : Bool := match v with
  | none => true
  | some (.inl j) => (match fx_look 9 w j with
    | some (.inl o) => fx_qk t o.1
    | _ => I j && fx_qk t 6)
  | _ => false
noncomputable def fx_asq (I : Nat → Bool) : fx_Wr := fun _ S w => match S with
  | .inr (.inr v) :: .inl i :: .inr (.inr (some (.inl a))) :: S => (match fx_look 9 w a with
    | some (.inr x) => bif Nat.ble 5 x.1 && Nat.blt x.1 13 && fx_qok I x.1 w v then (match sx_ix x.2.1 i with
      | some k => some (S, a, .inr (x.1, x.2.1, x.2.2.1, fx_put k (.inr (.inr v)) x.2.2.2))
      | none => none) else none
    | _ => none)
  | _ => none
def fx_pr (I : Nat → Bool) (w' : sx_W) : Prop := ∀ j, I j = true → ∃ fs, sx_look 12 w' j = some (.inl (6, fs))
theorem fx_qok_ok {I : Nat → Bool} {t : Nat} {w : fx_W} {v : sx_F} (h : fx_qok I t w v = true) {w' : sx_W} (hw : fx_le w w') (hI : fx_pr I w') : sx_qok t w' v = true := by
  unfold fx_qok at h
  split at h
  · rfl
  · rename_i j
    split at h
    · rename_i o ho
      obtain ⟨cj, fs⟩ := o
      have ho := hw _ _ ho
      unfold sx_qok
      simp only [ho]
      exact h
    · rw [Bool.and_eq_true] at h
      obtain ⟨fs, hfs⟩ := hI j h.1
      unfold sx_qok
      simp only [hfs]
      exact h.2
  · cases h
theorem fx_asq_ok {I : Nat → Bool} {B : sx_Bs} {S : List sx_V} {q : List sx_V × Nat × sx_C} {w : fx_W} (h : fx_asq I B S w = some q) : (∃ c0, fx_look 9 w q.2.1 = some c0) ∧ ∀ {w' : sx_W} (_ : fx_le w w') (_ : fx_pr I w') (L : List (Nat × sx_V)) (nx : Nat), sx_asq L S w' nx = some (L, q.1, sx_upd q.2.2 12 w' q.2.1, nx, 0, 0) := by
  unfold fx_asq at h
  split at h
  · rename_i v i a S0
    split at h
    · rename_i x hx
      obtain ⟨t, n, zr, u⟩ := x
      try simp only at h
      cases hf : (Nat.ble 5 t && Nat.blt t 13 && fx_qok I t w v) with
      | false => simp only [hf, cond_false] at h; cases h
      | true =>
        simp only [hf, cond_true] at h
        split at h
        · rename_i k hk
          cases h
          refine ⟨⟨_, hx⟩, fun {w'} hw hI L nx => ?_⟩
          have hx := hw _ _ hx
          rw [Bool.and_eq_true] at hf
          have e : (Nat.ble 5 t && Nat.blt t 13 && sx_qok t w' v) = true := by
            rw [Bool.and_eq_true]
            exact ⟨hf.1, fx_qok_ok hf.2 hw hI⟩
          unfold sx_asq
          simp only [hx, e, cond_true, hk, fx_put_eq]
        · cases h
    · cases h
  · cases h
noncomputable def fx_putf (aux : List Nat) : fx_Wr := match aux with
  | [_, ci, k, _, _, ft] => fun B S w => (match S with
    | v :: .inr (.inr (some (.inl a))) :: S => (match fx_look 9 w a with
      | some (.inl o) => bif Nat.beq o.1 ci && sx_fit B ft v then (match fx_nth o.2 k with
        | some _ => some (S, a, .inl (o.1, fx_set (some v) o.2 k))
        | none => none) else none
      | _ => none)
    | _ => none)
  | _ => fun _ _ _ => none
theorem fx_putf_ok {aux : List Nat} {B : sx_Bs} {S : List sx_V} {q : List sx_V × Nat × sx_C} {w : fx_W} (h : fx_putf aux B S w = some q) : (∃ c0, fx_look 9 w q.2.1 = some c0) ∧ ∀ {w' : sx_W} (_ : fx_le w w') (L : List (Nat × sx_V)) (nx : Nat), sx_putf B aux L S w' nx = some (L, q.1, sx_upd q.2.2 12 w' q.2.1, nx, 0, 0) := by
  unfold fx_putf at h
  split at h
  · rename_i mo ci k t t2 ft
    try simp only at h
    split at h
    · rename_i v a S0
      split at h
      · rename_i o ho
        obtain ⟨cj, fs⟩ := o
        try simp only at h
        cases hc : (Nat.beq cj ci && sx_fit B ft v) with
        | false => simp only [hc, cond_false] at h; cases h
        | true =>
          simp only [hc, cond_true] at h
          split at h
          · rename_i x9 hx9
            cases h
            refine ⟨⟨_, ho⟩, fun {w'} hw L nx => ?_⟩
            have ho := hw _ _ ho
            rw [fx_nth_eq] at hx9
            have hlt : Nat.blt k fs.length = true := Nat.ble_eq.mpr (List.getElem?_eq_some_iff.mp hx9).1
            unfold sx_putf
            simp only [ho, hc, hlt, Bool.and_true, cond_true, fx_set_eq]
          · cases h
      · cases h
    · cases h
  · cases h
noncomputable def fx_new (aux : List Nat) : fx_Nw := match aux with
  | ci :: _ :: _ :: _ :: cs => fun S => some (S, .inl (ci, cs.map sx_dfl), cs.length)
  | _ => fun _ => none
theorem fx_new_ok {aux : List Nat} {S : List sx_V} {q : List sx_V × sx_C × Nat} (h : fx_new aux S = some q) (L : List (Nat × sx_V)) (w' : sx_W) (nx : Nat) : sx_new aux L S w' nx = some (L, sx_id nx :: q.1, sx_upd q.2.1 12 w' nx, nx + 1, 1, q.2.2) := by
  unfold fx_new at h
  split at h
  · cases h
    rfl
  · cases h
noncomputable def fx_nwa (aux : List Nat) : fx_Nw := match aux with
  | [t, _] => fun S => (match S with
    | .inl v :: S => (match sx_nn v with
      | some n => some (S, .inr (t, n, true, []), n)
      | none => none)
    | _ => none)
  | _ => fun _ => none
theorem fx_nwa_ok {aux : List Nat} {S : List sx_V} {q : List sx_V × sx_C × Nat} (h : fx_nwa aux S = some q) (L : List (Nat × sx_V)) (w' : sx_W) (nx : Nat) : sx_newa aux L S w' nx = some (L, sx_id nx :: q.1, sx_upd q.2.1 12 w' nx, nx + 1, 1, q.2.2) := by
  unfold fx_nwa at h
  split at h
  · rename_i t wp
    try simp only at h
    split at h
    · rename_i v S0
      split at h
      · rename_i n hn
        cases h
        unfold sx_newa
        simp only [hn]
      · cases h
    · cases h
  · cases h
