/-! what each instruction does, each a closed function: found once a row -/
abbrev fx_W : Type := sx_T sx_C 9
abbrev fx_S : Type := Nat × List (Nat × sx_V) × List sx_V × fx_W × Nat × Nat × Nat
abbrev fx_K : Type := Nat → List (Nat × sx_V) → List sx_V → fx_W → Nat → Nat → Nat → Option fx_S
abbrev fx_Fn : Type := fx_K → sx_Bs → Nat → Nat → List (Nat × sx_V) → List sx_V → fx_W → Nat → Nat → Nat → Option fx_S
abbrev fx_Pu : Type := sx_Bs → Nat → List (Nat × sx_V) → List sx_V → Option sx_LS
abbrev fx_Rd : Type := sx_Bs → List sx_V → fx_W → Option (List sx_V)
abbrev fx_Wr : Type := sx_Bs → List sx_V → fx_W → Option (List sx_V × Nat × sx_C)
abbrev fx_Nw : Type := List sx_V → Option (List sx_V × sx_C × Nat)
noncomputable def fx_p (g : fx_Pu) : fx_Fn := fun K B mx r L S w nx k n => Option.rec (motive := fun _ => Option fx_S) none (fun q => K (Nat.succ r) q.1 q.2 w nx k n) (g B mx L S)
noncomputable def fx_j (t : Nat) (g : sx_Bs → List sx_V → Option (List sx_V × Bool)) : fx_Fn := fun K B _ r L S w nx k n => Option.rec (motive := fun _ => Option fx_S) none (fun q => K (Bool.rec (motive := fun _ => Nat) (Nat.succ r) t q.2) L q.1 w nx k n) (g B S)
noncomputable def fx_s (g : List sx_V → Option (List sx_V × Nat)) : fx_Fn := fun K _ _ _ L S w nx k n => match g S with
  | some q => K q.2 L q.1 w nx k n
  | none => none
noncomputable def fx_r (g : fx_Rd) : fx_Fn := fun K B _ r L S w nx k n => Option.rec (motive := fun _ => Option fx_S) none (fun q => K (Nat.succ r) L q w nx k n) (g B S w)
noncomputable def fx_w (g : fx_Wr) : fx_Fn := fun K B _ r L S w nx k n => Option.rec (motive := fun _ => Option fx_S) none (fun q => K (Nat.succ r) L q.1 (fx_upd q.2.2 9 w q.2.1) nx k n) (g B S w)
noncomputable def fx_n (g : fx_Nw) : fx_Fn := fun K _ _ r L S w nx k n => match g S with
  | some q => K (r + 1) L (sx_id nx :: q.1) (fx_upd q.2.1 9 w nx) (nx + 1) (k + 1) (n + q.2.2)
  | none => none
noncomputable def fx_no : fx_Fn := fun _ _ _ _ _ _ _ _ _ _ => none
noncomputable def fx_ldi (i : Nat) : fx_Pu := fun _ _ L S => match fx_lk L i with
  | some (.inl n) => some (L, .inl n :: S)
  | _ => none
noncomputable def fx_ldl (i : Nat) : fx_Pu := fun _ _ L S => match fx_lk L i with
  | some (.inr (.inl n)) => some (L, .inr (.inl n) :: S)
  | _ => none
noncomputable def fx_ldr (i : Nat) : fx_Pu := fun _ _ L S => match fx_lk L i with
  | some (.inr (.inr n)) => some (L, .inr (.inr n) :: S)
  | _ => none
noncomputable def fx_sti (i : Nat) : fx_Pu := fun _ mx L S => match S with
  | .inl n :: S => bif Nat.blt i mx then some ((i, .inl n) :: fx_f1 i L, S) else none
  | _ => none
noncomputable def fx_stl (i : Nat) : fx_Pu := fun _ mx L S => match S with
  | .inr (.inl n) :: S => bif Nat.blt (i + 1) mx then some ((i, .inr (.inl n)) :: fx_f2 i L, S) else none
  | _ => none
noncomputable def fx_str (i : Nat) : fx_Pu := fun _ mx L S => match S with
  | .inr (.inr n) :: S => bif Nat.blt i mx then some ((i, .inr (.inr n)) :: fx_f1 i L, S) else none
  | _ => none
noncomputable def fx_inc (i : Nat) (n : Int) : fx_Pu := fun B mx L S => match fx_lk L i with
  | some (.inl v) => (match sx_nadd B v (.inl (sx_c n)) with
    | some u => bif Nat.blt i mx then some ((i, .inl u) :: fx_f1 i L, S) else none
    | none => none)
  | _ => none
theorem fx_ldi_eq (i : Nat) (B : sx_Bs) (mx : Nat) (L : List (Nat × sx_V)) (S : List sx_V) : fx_ldi i B mx L S = sx_ldi L i S := by unfold fx_ldi sx_ldi; rw [fx_lk_eq]; rfl
theorem fx_ldl_eq (i : Nat) (B : sx_Bs) (mx : Nat) (L : List (Nat × sx_V)) (S : List sx_V) : fx_ldl i B mx L S = sx_ldl L i S := by unfold fx_ldl sx_ldl; rw [fx_lk_eq]; rfl
theorem fx_ldr_eq (i : Nat) (B : sx_Bs) (mx : Nat) (L : List (Nat × sx_V)) (S : List sx_V) : fx_ldr i B mx L S = sx_ldr L i S := by unfold fx_ldr sx_ldr; rw [fx_lk_eq]; rfl
theorem fx_sti_eq (i : Nat) (B : sx_Bs) (mx : Nat) (L : List (Nat × sx_V)) (S : List sx_V) : fx_sti i B mx L S = sx_sti mx L i S := by unfold fx_sti sx_sti sx_st1; simp only [fx_f1_eq]; rfl
theorem fx_stl_eq (i : Nat) (B : sx_Bs) (mx : Nat) (L : List (Nat × sx_V)) (S : List sx_V) : fx_stl i B mx L S = sx_stl mx L i S := by unfold fx_stl sx_stl sx_st2; simp only [fx_f2_eq]; rfl
theorem fx_str_eq (i : Nat) (B : sx_Bs) (mx : Nat) (L : List (Nat × sx_V)) (S : List sx_V) : fx_str i B mx L S = sx_str mx L i S := by unfold fx_str sx_str sx_st1; simp only [fx_f1_eq]; rfl
theorem fx_inc_eq (i : Nat) (n : Int) (B : sx_Bs) (mx : Nat) (L : List (Nat × sx_V)) (S : List sx_V) : fx_inc i n B mx L S = sx_inc B mx L i n S := by unfold fx_inc sx_inc sx_st1; simp only [fx_f1_eq, fx_lk_eq]; rfl
/-! small numbers that are known, quickly -/
theorem fx_leT {a b : Int} (h : a ≤ b) : sx_le a b = true := (sx_le_iff a b).mpr h
theorem fx_leF {a b : Int} (h : ¬ a ≤ b) : sx_le a b = false := by
  cases e : sx_le a b with
  | false => rfl
  | true => exact absurd ((sx_le_iff a b).mp e) h
theorem fx_eqT {a b : Int} (h : a = b) : sx_eq a b = true := (sx_eq_iff a b).mpr h
theorem fx_eqF {a b : Int} (h : ¬ a = b) : sx_eq a b = false := by
  cases e : sx_eq a b with
  | false => rfl
  | true => exact absurd ((sx_eq_iff a b).mp e) h
noncomputable def fx_rn (c : Jvm.ClassFile.Cond) (a b : Nat) : Bool := match c with
  | .eq => Nat.beq a b
  | .ne => !Nat.beq a b
  | .lt => Nat.blt a b
  | .ge => Nat.ble b a
  | .gt => Nat.blt b a
  | .le => Nat.ble a b
noncomputable def fx_cms (c : Jvm.ClassFile.Cond) (B : sx_Bs) (x y : sx_N) : Option Bool := match sx_dif B x y with
  | some d => sx_rel c d
  | none => none
noncomputable def fx_cmp (c : Jvm.ClassFile.Cond) (B : sx_Bs) (x y : sx_N) : Option Bool := match x, y with
  | .inl (.ofNat a, []), .inl (.ofNat b, []) => Bool.rec (motive := fun _ => Option Bool) (fx_cms c B (.inl (.ofNat a, [])) (.inl (.ofNat b, []))) (some (fx_rn c a b)) (Nat.ble a 2147483647 && Nat.ble b 2147483647)
  | x, y => fx_cms c B x y
theorem fx_cms_c (c : Jvm.ClassFile.Cond) (B : sx_Bs) {a b : Nat} (ha : a ≤ 2147483647) (hb : b ≤ 2147483647) : fx_cms c B (.inl (.ofNat a, [])) (.inl (.ofNat b, [])) = some (fx_rn c a b) := by
  have i1 : ∀ x : Nat, x ≤ 2147483647 → sx_in32 B (Int.ofNat x, []) = true := fun x hx => by
    show (sx_le (-2147483648) (Int.ofNat x + 0) && sx_le (Int.ofNat x + 0) 2147483647) = true
    have h0 : (0 : Int) ≤ Int.ofNat x := Int.natCast_nonneg x
    have h1 : Int.ofNat x ≤ 2147483647 := Int.ofNat_le.mpr hx
    rw [fx_leT (by omega), fx_leT (by omega)]
    rfl
  have e : sx_dif B (.inl (.ofNat a, [])) (.inl (.ofNat b, [])) = some (Int.ofNat a + -1 * Int.ofNat b + 0, Int.ofNat a + -1 * Int.ofNat b + 0) := by
    show (bif sx_in32 B (Int.ofNat a, []) && sx_in32 B (Int.ofNat b, []) then sx_iv B (sx_sub (Int.ofNat a, []) (Int.ofNat b, [])) else none) = _
    rw [i1 a ha, i1 b hb]
    rfl
  unfold fx_cms
  rw [e]
  have ka : ((a : Nat) : Int) = Int.ofNat a := rfl
  have kb : ((b : Nat) : Int) = Int.ofNat b := rfl
  have hk : Int.ofNat a + -1 * Int.ofNat b + 0 = (a : Int) - (b : Int) := by omega
  rw [hk]
  show sx_rel c ((a : Int) - b, (a : Int) - b) = _
  rcases Nat.lt_trichotomy a b with h | h | h
  · have b1 : Nat.beq a b = false := by
      cases e : Nat.beq a b with
      | false => rfl
      | true => have := Nat.eq_of_beq_eq_true e; omega
    have b2 : Nat.blt a b = true := Nat.ble_eq_true_of_le h
    have b3 : Nat.ble b a = false := by
      cases e : Nat.ble b a with
      | false => rfl
      | true => have := Nat.le_of_ble_eq_true e; omega
    have b4 : Nat.blt b a = false := by
      cases e : Nat.blt b a with
      | false => rfl
      | true => have : b < a := Nat.le_of_ble_eq_true e; omega
    have b5 : Nat.ble a b = true := Nat.ble_eq_true_of_le (by omega)
    cases c <;> simp only [sx_rel, fx_rn, b1, b2, b3, b4, b5, fx_eqF (show ¬ (a : Int) - b = 0 by omega), fx_leF (show ¬ (1 : Int) ≤ (a : Int) - b by omega), fx_leT (show (a : Int) - b ≤ -1 by omega), fx_leF (show ¬ (0 : Int) ≤ (a : Int) - b by omega), fx_leT (show (a : Int) - b ≤ 0 by omega)] <;> rfl
  · subst h
    have b1 : Nat.beq a a = true := Nat.beq_refl a
    have b2 : Nat.blt a a = false := by
      cases e : Nat.blt a a with
      | false => rfl
      | true => have : a < a := Nat.le_of_ble_eq_true e; omega
    have b3 : Nat.ble a a = true := Nat.ble_eq_true_of_le (Nat.le_refl a)
    cases c <;> simp only [sx_rel, fx_rn, b1, b2, b3, fx_eqT (show (a : Int) - a = 0 by omega), fx_leF (show ¬ (1 : Int) ≤ (a : Int) - a by omega), fx_leF (show ¬ (a : Int) - a ≤ -1 by omega), fx_leT (show (0 : Int) ≤ (a : Int) - a by omega), fx_leT (show (a : Int) - a ≤ 0 by omega)] <;> rfl
  · have b1 : Nat.beq a b = false := by
      cases e : Nat.beq a b with
      | false => rfl
      | true => have := Nat.eq_of_beq_eq_true e; omega
    have b2 : Nat.blt a b = false := by
      cases e : Nat.blt a b with
      | false => rfl
      | true => have : a < b := Nat.le_of_ble_eq_true e; omega
    have b3 : Nat.ble b a = true := Nat.ble_eq_true_of_le (by omega)
    have b4 : Nat.blt b a = true := Nat.ble_eq_true_of_le h
    have b5 : Nat.ble a b = false := by
      cases e : Nat.ble a b with
      | false => rfl
      | true => have := Nat.le_of_ble_eq_true e; omega
    cases c <;> simp only [sx_rel, fx_rn, b1, b2, b3, b4, b5, fx_eqF (show ¬ (a : Int) - b = 0 by omega), fx_leT (show (1 : Int) ≤ (a : Int) - b by omega), fx_leF (show ¬ (a : Int) - b ≤ -1 by omega), fx_leT (show (0 : Int) ≤ (a : Int) - b by omega), fx_leF (show ¬ (a : Int) - b ≤ 0 by omega)] <;> rfl
theorem fx_cmp_eq (c : Jvm.ClassFile.Cond) (B : sx_Bs) (x y : sx_N) : fx_cmp c B x y = fx_cms c B x y := by
  unfold fx_cmp
  split
  · rename_i a b
    cases h : (Nat.ble a 2147483647 && Nat.ble b 2147483647) with
    | false => rfl
    | true =>
      rw [Bool.and_eq_true] at h
      exact (fx_cms_c c B (Nat.le_of_ble_eq_true h.1) (Nat.le_of_ble_eq_true h.2)).symm
  · rfl
/-- modulo 2^64, quickly -/
noncomputable def fx_lnm (e : sx_I) : sx_I := match e with
  | (.ofNat a, []) => Bool.rec (motive := fun _ => sx_I) (sx_lnm (.ofNat a, [])) (.ofNat a, []) (Nat.ble a 9223372036854775807)
  | e => sx_lnm e
theorem fx_lnm_eq (e : sx_I) : fx_lnm e = sx_lnm e := by
  unfold fx_lnm
  split
  · rename_i a
    cases h : Nat.ble a 9223372036854775807 with
    | false => rfl
    | true =>
      have h := Nat.le_of_ble_eq_true h
      show (Int.ofNat a, ([] : List (Nat × Int))) = ((Int.ofNat a + 18446744073709551616 / 2) % 18446744073709551616 - 18446744073709551616 / 2, [])
      have h1 : Int.ofNat a ≤ 9223372036854775807 := Int.ofNat_le.mpr h
      have h0 : (0 : Int) ≤ Int.ofNat a := Int.natCast_nonneg a
      rw [show (Int.ofNat a + 18446744073709551616 / 2) % 18446744073709551616 - 18446744073709551616 / 2 = Int.ofNat a by omega]
  · rfl
noncomputable def fx_i2l (B : sx_Bs) (x : sx_N) : Option sx_I := match x with
  | .inl (.ofNat a, []) => Bool.rec (motive := fun _ => Option sx_I) (sx_ni2l B (.inl (.ofNat a, []))) (some (.ofNat a, [])) (Nat.ble a 2147483647)
  | x => sx_ni2l B x
theorem fx_i2l_eq (B : sx_Bs) (x : sx_N) : fx_i2l B x = sx_ni2l B x := by
  unfold fx_i2l
  split
  · rename_i a
    cases h : Nat.ble a 2147483647 with
    | false => rfl
    | true =>
      have hx := Nat.le_of_ble_eq_true h
      have i1 : sx_in32 B (Int.ofNat a, []) = true := by
        show (sx_le (-2147483648) (Int.ofNat a + 0) && sx_le (Int.ofNat a + 0) 2147483647) = true
        have h0 : (0 : Int) ≤ Int.ofNat a := Int.natCast_nonneg a
        have h1 : Int.ofNat a ≤ 2147483647 := Int.ofNat_le.mpr hx
        rw [fx_leT (by omega), fx_leT (by omega)]
        rfl
      show some _ = (bif sx_in32 B (Int.ofNat a, []) then some (Int.ofNat a, []) else none)
      rw [i1]
      rfl
  · rfl
noncomputable def fx_l2i (e : sx_I) : sx_I := match e with
  | (.ofNat a, []) => Bool.rec (motive := fun _ => sx_I) (sx_nm sx_m32 (.ofNat a, [])) (.ofNat a, []) (Nat.ble a 2147483647)
  | e => sx_nm sx_m32 e
theorem fx_l2i_eq (e : sx_I) : fx_l2i e = sx_nm sx_m32 e := by
  unfold fx_l2i
  split
  · rename_i a
    cases h : Nat.ble a 2147483647 with
    | false => rfl
    | true =>
      have h := Nat.le_of_ble_eq_true h
      show (Int.ofNat a, ([] : List (Nat × Int))) = ((Int.ofNat a + 4294967296 / 2) % 4294967296 - 4294967296 / 2, [])
      have h1 : Int.ofNat a ≤ 2147483647 := Int.ofNat_le.mpr h
      have h0 : (0 : Int) ≤ Int.ofNat a := Int.natCast_nonneg a
      rw [show (Int.ofNat a + 4294967296 / 2) % 4294967296 - 4294967296 / 2 = Int.ofNat a by omega]
  · rfl
noncomputable def fx_lml (a b : sx_I) : Option sx_I := match a, b with
  | (.ofNat x, []), (.ofNat y, []) => Bool.rec (motive := fun _ => Option sx_I) (sx_lmul (.ofNat x, []) (.ofNat y, [])) (some (.ofNat (x * y), [])) (Nat.ble (x * y) 9223372036854775807)
  | a, b => sx_lmul a b
theorem fx_lml_eq (a b : sx_I) : fx_lml a b = sx_lmul a b := by
  unfold fx_lml
  split
  · rename_i x y
    cases h : Nat.ble (x * y) 9223372036854775807 with
    | false => rfl
    | true =>
      have e := fx_lnm_eq (.ofNat (x * y), [])
      have e2 : fx_lnm (.ofNat (x * y), []) = (.ofNat (x * y), []) := by
        show Bool.rec (motive := fun _ => sx_I) (sx_lnm (.ofNat (x * y), [])) (.ofNat (x * y), []) (Nat.ble (x * y) 9223372036854775807) = _
        rw [h]
      rw [e2] at e
      show some (Int.ofNat (x * y), []) = some (sx_lnm (sx_mul (.ofNat x) (.ofNat y, [])))
      have e3 : sx_mul (.ofNat x) (.ofNat y, []) = (.ofNat (x * y), []) := by
        unfold sx_mul
        have : (bif sx_eq (Int.ofNat x) 0 then [] else sx_mull (Int.ofNat x) []) = ([] : List (Nat × Int)) := by cases sx_eq (Int.ofNat x) 0 <;> rfl
        simp only [this]
        rfl
      rw [e3, ← e]
  · rfl
/-- on locals and stack alone -/
noncomputable def fx_pu (ins : Instr) : Option fx_Pu := match ins with
  | .aconst_null => some (fun _ _ L S => some (L, sx_nul :: S))
  | .iconst n => some (fun _ _ L S => some (L, sx_int n :: S))
  | .bipush n => some (fun _ _ L S => some (L, sx_int (Int8.ofInt n).toInt :: S))
  | .sipush n => some (fun _ _ L S => some (L, sx_int (Int16.ofInt n).toInt :: S))
  | .lconst n => some (fun _ _ L S => some (L, .inr (.inl (sx_c (n.val : Int))) :: S))
  | .iload i => some (fx_ldi i)
  | .iload_n i => some (fx_ldi i.val)
  | .lload i => some (fx_ldl i)
  | .lload_n i => some (fx_ldl i.val)
  | .aload i => some (fx_ldr i)
  | .aload_n i => some (fx_ldr i.val)
  | .istore i => some (fx_sti i)
  | .istore_n i => some (fx_sti i.val)
  | .lstore i => some (fx_stl i)
  | .lstore_n i => some (fx_stl i.val)
  | .astore i => some (fx_str i)
  | .astore_n i => some (fx_str i.val)
  | .iinc i n => some (fx_inc i n)
  | .iadd => some (fun B _ L S => sx_i2 (sx_nadd B) L S)
  | .isub => some (fun B _ L S => sx_i2 (sx_nsub B) L S)
  | .imul => some (fun _ _ L S => sx_i2 sx_nmul L S)
  | .iand => some (fun B _ L S => sx_i2 (sx_nand B) L S)
  | .ior => some (fun B _ L S => sx_i2 (sx_nor B) L S)
  | .ishr => some (fun B _ L S => sx_i2 (sx_nshr B) L S)
  | .ishl => some (fun _ _ L S => sx_i2 sx_nshl L S)
  | .idiv => some (fun B _ L S => sx_i2 (sx_ndiv B) L S)
  | .irem => some (fun B _ L S => sx_i2 (sx_nrem B) L S)
  | .ineg => some (fun _ _ L S => sx_i1 sx_nneg L S)
  | .i2b => some (fun B _ L S => sx_i1 (sx_ni2b B) L S)
  | .i2c => some (fun B _ L S => sx_i1 (sx_ni2c B) L S)
  | .ladd => some (fun _ _ L S => sx_l2 (fun a b => some (fx_lnm (sx_add a b))) L S)
  | .lsub => some (fun _ _ L S => sx_l2 (fun a b => some (sx_lnm (sx_sub a b))) L S)
  | .lmul => some (fun _ _ L S => sx_l2 fx_lml L S)
  | .ldiv => some (fun B _ L S => sx_l2 (fun a b => (sx_ldiv B a b).map Prod.fst) L S)
  | .lrem => some (fun B _ L S => sx_l2 (fun a b => (sx_ldiv B a b).map Prod.snd) L S)
  | .land => some (fun _ _ L S => sx_l2 (sx_lcc (fun x y => x &&& y)) L S)
  | .lor => some (fun _ _ L S => sx_l2 (sx_lcc (fun x y => x ||| y)) L S)
  | .lneg => some (fun _ _ L S => (match S with
    | .inr (.inl x) :: S => some (L, .inr (.inl (sx_lnm (sx_mul (-1) x))) :: S)
    | _ => none))
  | .lshl => some (fun _ _ L S => (match S with
    | .inl y :: .inr (.inl x) :: S => (match sx_lsh (fun x y => x <<< (y.toInt64 &&& 63)) x y with
      | some u => some (L, .inr (.inl u) :: S)
      | none => none)
    | _ => none))
  | .lshr => some (fun B mx L S => sx_pure B mx .lshr L S)
  | .lushr => some (fun B mx L S => sx_pure B mx .lushr L S)
  | .lcmp => some (fun B _ L S => (match S with
    | .inr (.inl y) :: .inr (.inl x) :: S => (match sx_lcmp B x y with
      | some u => some (L, .inl u :: S)
      | none => none)
    | _ => none))
  | .i2l => some (fun B _ L S => (match S with
    | .inl x :: S => (match fx_i2l B x with
      | some u => some (L, .inr (.inl u) :: S)
      | none => none)
    | _ => none))
  | .l2i => some (fun _ _ L S => (match S with
    | .inr (.inl x) :: S => some (L, .inl (.inl (fx_l2i x)) :: S)
    | _ => none))
  | .dup => some (fun _ _ L S => (match S with
    | v :: S => bif sx_isL v then none else some (L, v :: v :: S)
    | _ => none))
  | .pop => some (fun _ _ L S => (match S with
    | v :: S => bif sx_isL v then none else some (L, S)
    | _ => none))
  | .dup_x1 => some (fun _ _ L S => (match S with
    | v :: u :: S => bif sx_isL v || sx_isL u then none else some (L, v :: u :: v :: S)
    | _ => none))
  | .dup2 => some (fun _ _ L S => (match S with
    | v :: S => bif sx_isL v then some (L, v :: v :: S) else (match S with
      | u :: S => bif sx_isL u then none else some (L, v :: u :: v :: u :: S)
      | _ => none)
    | _ => none))
  | .ixor => some (fun _ _ L S => sx_i2 (sx_icc (fun x y => x ^^^ y)) L S)
  | .iushr => some (fun _ _ L S => sx_i2 (sx_icc (fun x y => (x.toUInt32 >>> (y.toUInt32 &&& Int32.toUInt32 31)).toInt32)) L S)
  | _ => none
theorem fx_pu_ok {ins : Instr} {g : fx_Pu} (h : fx_pu ins = some g) : ∀ (B : sx_Bs) (mx : Nat) (L : List (Nat × sx_V)) (S : List sx_V), g B mx L S = sx_pure B mx ins L S := by
  intro B mx L S
  have l1 : (fun a b => some (fx_lnm (sx_add a b))) = fun a b => some (sx_lnm (sx_add a b)) := by funext a b; rw [fx_lnm_eq]
  have l2 : fx_lml = sx_lmul := by funext a b; exact fx_lml_eq a b
  cases ins <;> first
    | (cases h; rfl)
    | (cases h; show sx_l2 (fun a b => some (fx_lnm (sx_add a b))) L S = _; rw [l1]; rfl)
    | (cases h; show sx_l2 fx_lml L S = _; rw [l2]; rfl)
    | (cases h; simp only [fx_i2l_eq]; rfl)
    | (cases h; simp only [fx_l2i_eq]; rfl)
    | (cases h; exact fx_ldi_eq _ _ _ _ _)
    | (cases h; exact fx_ldl_eq _ _ _ _ _)
    | (cases h; exact fx_ldr_eq _ _ _ _ _)
    | (cases h; exact fx_sti_eq _ _ _ _ _)
    | (cases h; exact fx_stl_eq _ _ _ _ _)
    | (cases h; exact fx_str_eq _ _ _ _ _)
    | (cases h; exact fx_inc_eq _ _ _ _ _ _)
    | (exact nomatch h)
/-- jumps -/
noncomputable def fx_ju (ins : Instr) : Option (sx_Bs → List sx_V → Option (List sx_V × Bool)) := match ins with
  | .goto _ => some (fun _ S => some (S, true))
  | .if_icmp c _ => some (fun B S => (match S with
    | .inl y :: .inl x :: S => (match fx_cmp c B x y with
      | some t => some (S, t)
      | none => none)
    | _ => none))
  | .ifCond c _ => some (fun B S => (match S with
    | .inl x :: S => (match fx_cmp c B x (.inl (.ofNat 0, [])) with
      | some t => some (S, t)
      | none => none)
    | _ => none))
  | .if_acmp c _ => some (fun _ S => (match S with
    | .inr (.inr y) :: .inr (.inr x) :: S => (match sx_req x y with
      | some t => some (S, (match c with
        | .eq => t
        | .ne => !t))
      | none => none)
    | _ => none))
  | .ifnull _ => some (fun _ S => (match S with
    | .inr (.inr x) :: S => (match sx_nulq x with
      | some t => some (S, t)
      | none => none)
    | _ => none))
  | .ifnonnull _ => some (fun _ S => (match S with
    | .inr (.inr x) :: S => (match sx_nulq x with
      | some t => some (S, !t)
      | none => none)
    | _ => none))
  | _ => none
theorem fx_ju_ok {ins : Instr} {g : sx_Bs → List sx_V → Option (List sx_V × Bool)} (h : fx_ju ins = some g) : (∀ (B : sx_Bs) (mx : Nat) (L : List (Nat × sx_V)) (S : List sx_V), sx_pure B mx ins L S = none) ∧ ∀ (B : sx_Bs) (S : List sx_V), g B S = sx_jmp B ins S := by
  have q1 : ∀ (c : Jvm.ClassFile.Cond) (B : sx_Bs) (x y : sx_N) (S : List sx_V), (match fx_cmp c B x y with
      | some t => some (S, t)
      | none => none) = (match sx_dif B x y with
      | some d => (match sx_rel c d with
        | some t => some (S, t)
        | none => none)
      | none => none) := fun c B x y S => by
    rw [fx_cmp_eq]
    unfold fx_cms
    cases sx_dif B x y with
    | none => rfl
    | some d => rfl
  cases ins <;> first
    | (cases h; exact ⟨fun _ _ _ _ => rfl, fun _ _ => rfl⟩)
    | (cases h; refine ⟨fun _ _ _ _ => rfl, fun B S => ?_⟩; simp only [q1]; rfl)
    | (cases h; refine ⟨fun _ _ _ _ => rfl, fun B S => ?_⟩; show (match S with
        | .inl x :: S => (match fx_cmp _ B x (.inl (sx_c 0)) with
          | some t => some (S, t)
          | none => none)
        | _ => none) = _; simp only [q1]; rfl)
    | (exact nomatch h)
noncomputable def fx_su (ins : Instr) : Bool := match ins with
  | .tableswitch _ _ _ _ => true
  | .lookupswitch _ _ => true
  | _ => false
theorem fx_su_ok {ins : Instr} (h : fx_su ins = true) : (∀ (B : sx_Bs) (mx : Nat) (L : List (Nat × sx_V)) (S : List sx_V), sx_pure B mx ins L S = none) ∧ ∀ (B : sx_Bs) (S : List sx_V), sx_jmp B ins S = none := by
  cases ins <;> first
    | (exact ⟨fun _ _ _ _ => rfl, fun _ _ => rfl⟩)
    | (exact nomatch h)
theorem fx_swN {ins : Instr} (h : fx_su ins = false) (aux : List Nat) (S : List sx_V) : sx_swi ins aux S = none := by
  unfold sx_swi
  split
  · rename_i x S0
    cases hb : (sx_le (-2147483648) x && sx_le x 2147483647) with
    | false => rfl
    | true =>
      rw [cond_true]
      cases ins <;> first
        | rfl
        | (exact nomatch h)
  · rfl
