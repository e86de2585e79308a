/-! what each instruction does, each a closed function: found once a row -/
abbrev fx_W : Type := sx_T sx_C 9
abbrev fx_S : Type := Nat × List (Nat × sx_V) × List sx_V × fx_W × Nat × Nat × Nat
abbrev fx_K : Type := Nat → List (Nat × sx_V) → List sx_V → fx_W → Nat → Nat → Nat → Option fx_S
abbrev fx_Fn : Type := fx_K → sx_Bs → Nat → Nat → List (Nat × sx_V) → List sx_V → fx_W → Nat → Nat → Nat → Option fx_S
abbrev fx_Pu : Type := sx_Bs → Nat → List (Nat × sx_V) → List sx_V → Option sx_LS
abbrev fx_Rd : Type := sx_Bs → List sx_V → fx_W → Option (List sx_V)
abbrev fx_Wr : Type := sx_Bs → List sx_V → fx_W → Option (List sx_V × Nat × sx_C)
abbrev fx_Nw : Type := List sx_V → Option (List sx_V × sx_C × Nat)
noncomputable def fx_p (g : fx_Pu) : fx_Fn := fun K B mx r L S w nx k n => match g B mx L S with
  | some q => K (r + 1) q.1 q.2 w nx k n
  | none => none
noncomputable def fx_j (t : Nat) (g : sx_Bs → List sx_V → Option (List sx_V × Bool)) : fx_Fn := fun K B _ r L S w nx k n => match g B S with
  | some q => K (bif q.2 then t else r + 1) L q.1 w nx k n
  | none => none
noncomputable def fx_s (g : List sx_V → Option (List sx_V × Nat)) : fx_Fn := fun K _ _ _ L S w nx k n => match g S with
  | some q => K q.2 L q.1 w nx k n
  | none => none
noncomputable def fx_r (g : fx_Rd) : fx_Fn := fun K B _ r L S w nx k n => match g B S w with
  | some q => K (r + 1) L q w nx k n
  | none => none
noncomputable def fx_w (g : fx_Wr) : fx_Fn := fun K B _ r L S w nx k n => match g B S w with
  | some q => K (r + 1) L q.1 (fx_upd q.2.2 9 w q.2.1) nx k n
  | none => none
noncomputable def fx_n (g : fx_Nw) : fx_Fn := fun K _ _ r L S w nx k n => match g S with
  | some q => K (r + 1) L (sx_id nx :: q.1) (fx_upd q.2.1 9 w nx) (nx + 1) (k + 1) (n + q.2.2)
  | none => none
noncomputable def fx_no : fx_Fn := fun _ _ _ _ _ _ _ _ _ _ => none
noncomputable def fx_ldi (i : Nat) : fx_Pu := fun _ _ L S => match fx_lk L i with
  | some (.inl n) => some (L, .inl n :: S)
  | _ => none
noncomputable def fx_ldl (i : Nat) : fx_Pu := fun _ _ L S => match fx_lk L i with
  | some (.inr (.inl n)) => some (L, .inr (.inl n) :: S)
  | _ => none
noncomputable def fx_ldr (i : Nat) : fx_Pu := fun _ _ L S => match fx_lk L i with
  | some (.inr (.inr n)) => some (L, .inr (.inr n) :: S)
  | _ => none
noncomputable def fx_sti (i : Nat) : fx_Pu := fun _ mx L S => match S with
  | .inl n :: S => bif Nat.blt i mx then some ((i, .inl n) :: fx_f1 i L, S) else none
  | _ => none
noncomputable def fx_stl (i : Nat) : fx_Pu := fun _ mx L S => match S with
  | .inr (.inl n) :: S => bif Nat.blt (i + 1) mx then some ((i, .inr (.inl n)) :: fx_f2 i L, S) else none
  | _ => none
noncomputable def fx_str (i : Nat) : fx_Pu := fun _ mx L S => match S with
  | .inr (.inr n) :: S => bif Nat.blt i mx then some ((i, .inr (.inr n)) :: fx_f1 i L, S) else none
  | _ => none
noncomputable def fx_inc (i : Nat) (n : Int) : fx_Pu := fun B mx L S => match fx_lk L i with
  | some (.inl v) => (match sx_nadd B v (.inl (sx_c n)) with
    | some u => bif Nat.blt i mx then some ((i, .inl u) :: fx_f1 i L, S) else none
    | none => none)
  | _ => none
theorem fx_ldi_eq (i : Nat) (B : sx_Bs) (mx : Nat) (L : List (Nat × sx_V)) (S : List sx_V) : fx_ldi i B mx L S = sx_ldi L i S := by unfold fx_ldi sx_ldi; rw [fx_lk_eq]; rfl
theorem fx_ldl_eq (i : Nat) (B : sx_Bs) (mx : Nat) (L : List (Nat × sx_V)) (S : List sx_V) : fx_ldl i B mx L S = sx_ldl L i S := by unfold fx_ldl sx_ldl; rw [fx_lk_eq]; rfl
theorem fx_ldr_eq (i : Nat) (B : sx_Bs) (mx : Nat) (L : List (Nat × sx_V)) (S : List sx_V) : fx_ldr i B mx L S = sx_ldr L i S := by unfold fx_ldr sx_ldr; rw [fx_lk_eq]; rfl
theorem fx_sti_eq (i : Nat) (B : sx_Bs) (mx : Nat) (L : List (Nat × sx_V)) (S : List sx_V) : fx_sti i B mx L S = sx_sti mx L i S := by unfold fx_sti sx_sti sx_st1; simp only [fx_f1_eq]; rfl
theorem fx_stl_eq (i : Nat) (B : sx_Bs) (mx : Nat) (L : List (Nat × sx_V)) (S : List sx_V) : fx_stl i B mx L S = sx_stl mx L i S := by unfold fx_stl sx_stl sx_st2; simp only [fx_f2_eq]; rfl
theorem fx_str_eq (i : Nat) (B : sx_Bs) (mx : Nat) (L : List (Nat × sx_V)) (S : List sx_V) : fx_str i B mx L S = sx_str mx L i S := by unfold fx_str sx_str sx_st1; simp only [fx_f1_eq]; rfl
theorem fx_inc_eq (i : Nat) (n : Int) (B : sx_Bs) (mx : Nat) (L : List (Nat × sx_V)) (S : List sx_V) : fx_inc i n B mx L S = sx_inc B mx L i n S := by unfold fx_inc sx_inc sx_st1; simp only [fx_f1_eq, fx_lk_eq]; rfl
/-- on locals and stack alone -/
noncomputable def fx_pu (ins : Instr) : Option fx_Pu := match ins with
  | .aconst_null => some (fun _ _ L S => some (L, sx_nul :: S))
  | .iconst n => some (fun _ _ L S => some (L, sx_int n :: S))
  | .bipush n => some (fun _ _ L S => some (L, sx_int (Int8.ofInt n).toInt :: S))
  | .sipush n => some (fun _ _ L S => some (L, sx_int (Int16.ofInt n).toInt :: S))
  | .lconst n => some (fun _ _ L S => some (L, .inr (.inl (sx_c (n.val : Int))) :: S))
  | .iload i => some (fx_ldi i)
  | .iload_n i => some (fx_ldi i.val)
  | .lload i => some (fx_ldl i)
  | .lload_n i => some (fx_ldl i.val)
  | .aload i => some (fx_ldr i)
  | .aload_n i => some (fx_ldr i.val)
  | .istore i => some (fx_sti i)
  | .istore_n i => some (fx_sti i.val)
  | .lstore i => some (fx_stl i)
  | .lstore_n i => some (fx_stl i.val)
  | .astore i => some (fx_str i)
  | .astore_n i => some (fx_str i.val)
  | .iinc i n => some (fx_inc i n)
  | .iadd => some (fun B _ L S => sx_i2 (sx_nadd B) L S)
  | .isub => some (fun B _ L S => sx_i2 (sx_nsub B) L S)
  | .imul => some (fun _ _ L S => sx_i2 sx_nmul L S)
  | .iand => some (fun B _ L S => sx_i2 (sx_nand B) L S)
  | .ior => some (fun B _ L S => sx_i2 (sx_nor B) L S)
  | .ishr => some (fun B _ L S => sx_i2 (sx_nshr B) L S)
  | .ishl => some (fun _ _ L S => sx_i2 sx_nshl L S)
  | .idiv => some (fun B _ L S => sx_i2 (sx_ndiv B) L S)
  | .irem => some (fun B _ L S => sx_i2 (sx_nrem B) L S)
  | .ineg => some (fun _ _ L S => sx_i1 sx_nneg L S)
  | .i2b => some (fun B _ L S => sx_i1 (sx_ni2b B) L S)
  | .i2c => some (fun B _ L S => sx_i1 (sx_ni2c B) L S)
  | .ladd => some (fun _ _ L S => sx_l2 (fun a b => some (sx_lnm (sx_add a b))) L S)
  | .lsub => some (fun _ _ L S => sx_l2 (fun a b => some (sx_lnm (sx_sub a b))) L S)
  | .lmul => some (fun _ _ L S => sx_l2 sx_lmul L S)
  | .ldiv => some (fun B _ L S => sx_l2 (fun a b => (sx_ldiv B a b).map Prod.fst) L S)
  | .lrem => some (fun B _ L S => sx_l2 (fun a b => (sx_ldiv B a b).map Prod.snd) L S)
  | .land => some (fun B mx L S => sx_pure B mx .land L S)
  | .lor => some (fun B mx L S => sx_pure B mx .lor L S)
  | .lneg => some (fun B mx L S => sx_pure B mx .lneg L S)
  | .lshl => some (fun B mx L S => sx_pure B mx .lshl L S)
  | .lshr => some (fun B mx L S => sx_pure B mx .lshr L S)
  | .lushr => some (fun B mx L S => sx_pure B mx .lushr L S)
  | .lcmp => some (fun B mx L S => sx_pure B mx .lcmp L S)
  | .i2l => some (fun B mx L S => sx_pure B mx .i2l L S)
  | .l2i => some (fun B mx L S => sx_pure B mx .l2i L S)
  | .dup => some (fun B mx L S => sx_pure B mx .dup L S)
  | .pop => some (fun B mx L S => sx_pure B mx .pop L S)
  | .dup_x1 => some (fun B mx L S => sx_pure B mx .dup_x1 L S)
  | .dup2 => some (fun B mx L S => sx_pure B mx .dup2 L S)
  | .ixor => some (fun B mx L S => sx_pure B mx .ixor L S)
  | .iushr => some (fun B mx L S => sx_pure B mx .iushr L S)
  | _ => none
theorem fx_pu_ok {ins : Instr} {g : fx_Pu} (h : fx_pu ins = some g) : ∀ (B : sx_Bs) (mx : Nat) (L : List (Nat × sx_V)) (S : List sx_V), g B mx L S = sx_pure B mx ins L S := by
  intro B mx L S
  cases ins <;> first
    | (cases h; rfl)
    | (cases h; exact fx_ldi_eq _ _ _ _ _)
    | (cases h; exact fx_ldl_eq _ _ _ _ _)
    | (cases h; exact fx_ldr_eq _ _ _ _ _)
    | (cases h; exact fx_sti_eq _ _ _ _ _)
    | (cases h; exact fx_stl_eq _ _ _ _ _)
    | (cases h; exact fx_str_eq _ _ _ _ _)
    | (cases h; exact fx_inc_eq _ _ _ _ _ _)
    | (exact nomatch h)
/-- jumps -/
noncomputable def fx_ju (ins : Instr) : Option (sx_Bs → List sx_V → Option (List sx_V × Bool)) := match ins with
  | .goto _ => some (fun _ S => some (S, true))
  | .if_icmp c _ => some (fun B S => (match S with
    | .inl y :: .inl x :: S => (match sx_dif B x y with
      | some d => (match sx_rel c d with
        | some t => some (S, t)
        | none => none)
      | none => none)
    | _ => none))
  | .ifCond c _ => some (fun B S => (match S with
    | .inl x :: S => (match sx_dif B x (.inl (sx_c 0)) with
      | some d => (match sx_rel c d with
        | some t => some (S, t)
        | none => none)
      | none => none)
    | _ => none))
  | .if_acmp c o => some (fun B S => sx_jmp B (.if_acmp c o) S)
  | .ifnull o => some (fun B S => sx_jmp B (.ifnull o) S)
  | .ifnonnull o => some (fun B S => sx_jmp B (.ifnonnull o) S)
  | _ => none
theorem fx_ju_ok {ins : Instr} {g : sx_Bs → List sx_V → Option (List sx_V × Bool)} (h : fx_ju ins = some g) : (∀ (B : sx_Bs) (mx : Nat) (L : List (Nat × sx_V)) (S : List sx_V), sx_pure B mx ins L S = none) ∧ ∀ (B : sx_Bs) (S : List sx_V), g B S = sx_jmp B ins S := by
  cases ins <;> first
    | (cases h; exact ⟨fun _ _ _ _ => rfl, fun _ _ => rfl⟩)
    | (exact nomatch h)
noncomputable def fx_su (ins : Instr) : Bool := match ins with
  | .tableswitch _ _ _ _ => true
  | .lookupswitch _ _ => true
  | _ => false
theorem fx_su_ok {ins : Instr} (h : fx_su ins = true) : (∀ (B : sx_Bs) (mx : Nat) (L : List (Nat × sx_V)) (S : List sx_V), sx_pure B mx ins L S = none) ∧ ∀ (B : sx_Bs) (S : List sx_V), sx_jmp B ins S = none := by
  cases ins <;> first
    | (exact ⟨fun _ _ _ _ => rfl, fun _ _ => rfl⟩)
    | (exact nomatch h)
theorem fx_swN {ins : Instr} (h : fx_su ins = false) (aux : List Nat) (S : List sx_V) : sx_swi ins aux S = none := by
  unfold sx_swi
  split
  · rename_i x S0
    cases hb : (sx_le (-2147483648) x && sx_le x 2147483647) with
    | false => rfl
    | true =>
      rw [cond_true]
      cases ins <;> first
        | rfl
        | (exact nomatch h)
  · rfl
