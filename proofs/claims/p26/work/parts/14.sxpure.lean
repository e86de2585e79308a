/-! instructions that touch the locals and the stack alone -/
abbrev sx_LS : Type := List (Nat × sx_V) × List sx_V
def sx_i2 (f : sx_N → sx_N → Option sx_N) (L : List (Nat × sx_V)) (S : List sx_V) : Option sx_LS := match S with
  | .inl y :: .inl x :: S => (match f x y with
    | some u => some (L, .inl u :: S)
    | none => none)
  | _ => none
def sx_i1 (f : sx_N → Option sx_N) (L : List (Nat × sx_V)) (S : List sx_V) : Option sx_LS := match S with
  | .inl x :: S => (match f x with
    | some u => some (L, .inl u :: S)
    | none => none)
  | _ => none
def sx_l2 (f : sx_I → sx_I → Option sx_I) (L : List (Nat × sx_V)) (S : List sx_V) : Option sx_LS := match S with
  | .inr (.inl y) :: .inr (.inl x) :: S => (match f x y with
    | some u => some (L, .inr (.inl u) :: S)
    | none => none)
  | _ => none
def sx_ldi (L : List (Nat × sx_V)) (i : Nat) (S : List sx_V) : Option sx_LS := match sx_lk L i with
  | some (.inl n) => some (L, .inl n :: S)
  | _ => none
def sx_ldl (L : List (Nat × sx_V)) (i : Nat) (S : List sx_V) : Option sx_LS := match sx_lk L i with
  | some (.inr (.inl n)) => some (L, .inr (.inl n) :: S)
  | _ => none
def sx_ldr (L : List (Nat × sx_V)) (i : Nat) (S : List sx_V) : Option sx_LS := match sx_lk L i with
  | some (.inr (.inr n)) => some (L, .inr (.inr n) :: S)
  | _ => none
def sx_sti (mx : Nat) (L : List (Nat × sx_V)) (i : Nat) (S : List sx_V) : Option sx_LS := match S with
  | .inl n :: S => bif Nat.blt i mx then some (sx_st1 L i (.inl n), S) else none
  | _ => none
def sx_stl (mx : Nat) (L : List (Nat × sx_V)) (i : Nat) (S : List sx_V) : Option sx_LS := match S with
  | .inr (.inl n) :: S => bif Nat.blt (i + 1) mx then some (sx_st2 L i (.inr (.inl n)), S) else none
  | _ => none
def sx_str (mx : Nat) (L : List (Nat × sx_V)) (i : Nat) (S : List sx_V) : Option sx_LS := match S with
  | .inr (.inr n) :: S => bif Nat.blt i mx then some (sx_st1 L i (.inr (.inr n)), S) else none
  | _ => none
def sx_inc (B : sx_Bs) (mx : Nat) (L : List (Nat × sx_V)) (i : Nat) (n : Int) (S : List sx_V) : Option sx_LS := match sx_lk L i with
  | some (.inl v) => (match sx_nadd B v (.inl (sx_c n)) with
    | some u => bif Nat.blt i mx then some (sx_st1 L i (.inl u), S) else none
    | none => none)
  | _ => none
def sx_pure (B : sx_Bs) (mx : Nat) (ins : Instr) (L : List (Nat × sx_V)) (S : List sx_V) : Option sx_LS := match ins with
  | .aconst_null => some (L, sx_nul :: S)
  | .iconst n => some (L, sx_int n :: S)
  | .bipush n => some (L, sx_int (Int8.ofInt n).toInt :: S)
  | .sipush n => some (L, sx_int (Int16.ofInt n).toInt :: S)
  | .lconst n => some (L, .inr (.inl (sx_c (n.val : Int))) :: S)
  | .iload i => sx_ldi L i S
  | .iload_n i => sx_ldi L i.val S
  | .lload i => sx_ldl L i S
  | .lload_n i => sx_ldl L i.val S
  | .aload i => sx_ldr L i S
  | .aload_n i => sx_ldr L i.val S
  | .istore i => sx_sti mx L i S
  | .istore_n i => sx_sti mx L i.val S
  | .lstore i => sx_stl mx L i S
  | .lstore_n i => sx_stl mx L i.val S
  | .astore i => sx_str mx L i S
  | .astore_n i => sx_str mx L i.val S
  | .iinc i n => sx_inc B mx L i n S
  | .iadd => sx_i2 (sx_nadd B) L S
  | .isub => sx_i2 (sx_nsub B) L S
  | .imul => sx_i2 sx_nmul L S
  | .iand => sx_i2 (sx_nand B) L S
  | .ior => sx_i2 (sx_nor B) L S
  | .ixor => sx_i2 (sx_icc (fun x y => x ^^^ y)) L S
  | .ishl => sx_i2 sx_nshl L S
  | .ishr => sx_i2 (sx_nshr B) L S
  | .iushr => sx_i2 (sx_icc (fun x y => (x.toUInt32 >>> (y.toUInt32 &&& Int32.toUInt32 31)).toInt32)) L S
  | .idiv => sx_i2 (sx_ndiv B) L S
  | .irem => sx_i2 (sx_nrem B) L S
  | .ineg => sx_i1 sx_nneg L S
  | .i2b => sx_i1 (sx_ni2b B) L S
  | .i2c => sx_i1 (sx_ni2c B) L S
  | .ladd => sx_l2 (fun a b => some (sx_lnm (sx_add a b))) L S
  | .lsub => sx_l2 (fun a b => some (sx_lnm (sx_sub a b))) L S
  | .lmul => sx_l2 sx_lmul L S
  | .ldiv => sx_l2 (fun a b => (sx_ldiv B a b).map Prod.fst) L S
  | .lrem => sx_l2 (fun a b => (sx_ldiv B a b).map Prod.snd) L S
  | .land => sx_l2 (sx_lcc (fun x y => x &&& y)) L S
  | .lor => sx_l2 (sx_lcc (fun x y => x ||| y)) L S
  | .lneg => (match S with
    | .inr (.inl x) :: S => some (L, .inr (.inl (sx_lnm (sx_mul (-1) x))) :: S)
    | _ => none)
  | .lshl => (match S with
    | .inl y :: .inr (.inl x) :: S => (match sx_lsh (fun x y => x <<< (y.toInt64 &&& 63)) x y with
      | some u => some (L, .inr (.inl u) :: S)
      | none => none)
    | _ => none)
  | .lshr => (match S with
    | .inl y :: .inr (.inl x) :: S => (match sx_lsh (fun x y => x >>> (y.toInt64 &&& 63)) x y with
      | some u => some (L, .inr (.inl u) :: S)
      | none => none)
    | _ => none)
  | .lushr => (match S with
    | .inl y :: .inr (.inl x) :: S => (match sx_lsh (fun x y => (x.toUInt64 >>> (y.toInt64.toUInt64 &&& Int64.toUInt64 63)).toInt64) x y with
      | some u => some (L, .inr (.inl u) :: S)
      | none => none)
    | _ => none)
  | .lcmp => (match S with
    | .inr (.inl y) :: .inr (.inl x) :: S => (match sx_lcmp B x y with
      | some u => some (L, .inl u :: S)
      | none => none)
    | _ => none)
  | .i2l => (match S with
    | .inl x :: S => (match sx_ni2l B x with
      | some u => some (L, .inr (.inl u) :: S)
      | none => none)
    | _ => none)
  | .l2i => (match S with
    | .inr (.inl x) :: S => some (L, .inl (.inl (sx_nm sx_m32 x)) :: S)
    | _ => none)
  | .dup => (match S with
    | v :: S => bif sx_isL v then none else some (L, v :: v :: S)
    | _ => none)
  | .pop => (match S with
    | v :: S => bif sx_isL v then none else some (L, S)
    | _ => none)
  | .dup_x1 => (match S with
    | v :: u :: S => bif sx_isL v || sx_isL u then none else some (L, v :: u :: v :: S)
    | _ => none)
  | .dup2 => (match S with
    | v :: S => bif sx_isL v then some (L, v :: v :: S) else (match S with
      | u :: S => bif sx_isL u then none else some (L, v :: u :: v :: u :: S)
      | _ => none)
    | _ => none)
  | _ => none
def sx_ilen (ins : Instr) : Nat := match ins with
  | .iload _ => 2
  | .lload _ => 2
  | .aload _ => 2
  | .istore _ => 2
  | .lstore _ => 2
  | .astore _ => 2
  | .bipush _ => 2
  | .sipush _ => 3
  | .iinc _ _ => 3
  | .ldc _ => 2
  | .ldc_w _ => 3
  | .ldc2_w _ => 3
  | .getfield _ => 3
  | .putfield _ => 3
  | .getstatic _ => 3
  | .new _ => 3
  | .newarray _ => 2
  | .anewarray _ => 3
  | .checkcast _ => 3
  | .instanceof _ => 3
  | .invokevirtual _ => 3
  | .invokespecial _ => 3
  | .invokestatic _ => 3
  | .goto _ => 3
  | .if_icmp _ _ => 3
  | .ifCond _ _ => 3
  | .if_acmp _ _ => 3
  | .ifnull _ => 3
  | .ifnonnull _ => 3
  | _ => 1
section SXP
variable {p : Program} {l : Launch} {e : Env} {R : Room} {s : State} {m : MethodId} {args : Array Value} {below : List Frame} {meth : Method} {c : Code} {H : Heap} {locs : List Loc} {cells slots : Nat} {Q : State → Prop}
variable {cc : ByteArray} {pc nL : Nat} {ls : Array Slot} {st : List Value} {lv : List (Nat × Value)}
variable {ρ : Nat → Option Nat} {z : Nat → Nat} {σ : Nat → Int} {B : sx_Bs} {L L' : List (Nat × sx_V)} {S S' : List sx_V}
/-- what is to be shown behind an instruction -/
def sx_K (ρ : Nat → Option Nat) (z : Nat → Nat) (σ : Nat → Int) (nL : Nat) (G : Array Slot → List Value → Prop) (L : List (Nat × sx_V)) (S : List sx_V) : Prop := ∀ (ls : Array Slot) (lv : List (Nat × Value)) (st : List Value), lv_has ls nL lv → sx_RLs ρ z σ L lv → sx_RS ρ z σ S st → G ls st
theorem sx_i2_ok {G0 G : Array Slot → List Value → Prop} {f : sx_N → sx_N → Option sx_N} {g : Int32 → Int32 → Int32} (hf : ∀ {v w u : sx_N} {x y : Int32}, f v w = some u → sx_RN σ v x → sx_RN σ w y → sx_RN σ u (g x y)) (rule : ∀ {v w u : sx_N} {x y : Int32} {ls : Array Slot} {r : List Value}, f v w = some u → sx_RN σ v x → sx_RN σ w y → G ls (.int (g x y) :: r) → G0 ls (.int y :: .int x :: r)) (h : sx_i2 f L S = some (L', S')) (K : sx_K ρ z σ nL G L' S') : sx_K ρ z σ nL G0 L S := by
  intro ls lv st hl hL hS
  unfold sx_i2 at h
  split at h
  · split at h
    · rename_i y x S0 u hu
      cases h
      obtain ⟨b, r, rfl, hb, hS⟩ := hS.int
      obtain ⟨a, r, rfl, ha, hS⟩ := hS.int
      exact rule hu ha hb (K ls lv _ hl hL ⟨sx_RVi (hf hu ha hb), hS⟩)
    · cases h
  · cases h
theorem sx_i1_ok {G0 G : Array Slot → List Value → Prop} {f : sx_N → Option sx_N} {g : Int32 → Int32} (hf : ∀ {v u : sx_N} {x : Int32}, f v = some u → sx_RN σ v x → sx_RN σ u (g x)) (rule : ∀ {x : Int32} {ls : Array Slot} {r : List Value}, G ls (.int (g x) :: r) → G0 ls (.int x :: r)) (h : sx_i1 f L S = some (L', S')) (K : sx_K ρ z σ nL G L' S') : sx_K ρ z σ nL G0 L S := by
  intro ls lv st hl hL hS
  unfold sx_i1 at h
  split at h
  · split at h
    · rename_i x S0 u hu
      cases h
      obtain ⟨a, r, rfl, ha, hS⟩ := hS.int
      exact rule (K ls lv _ hl hL ⟨sx_RVi (hf hu ha), hS⟩)
    · cases h
  · cases h
theorem sx_l2_ok {G0 G : Array Slot → List Value → Prop} {f : sx_I → sx_I → Option sx_I} {g : Int64 → Int64 → Int64} (hf : ∀ {v w u : sx_I} {x y : Int64}, f v w = some u → sx_RL σ v x → sx_RL σ w y → sx_RL σ u (g x y)) (rule : ∀ {v w u : sx_I} {x y : Int64} {ls : Array Slot} {r : List Value}, f v w = some u → sx_RL σ v x → sx_RL σ w y → G ls (.long (g x y) :: r) → G0 ls (.long y :: .long x :: r)) (h : sx_l2 f L S = some (L', S')) (K : sx_K ρ z σ nL G L' S') : sx_K ρ z σ nL G0 L S := by
  intro ls lv st hl hL hS
  unfold sx_l2 at h
  split at h
  · split at h
    · rename_i y x S0 u hu
      cases h
      obtain ⟨b, r, rfl, hb, hS⟩ := hS.long
      obtain ⟨a, r, rfl, ha, hS⟩ := hS.long
      exact rule hu ha hb (K ls lv _ hl hL ⟨sx_RVl (hf hu ha hb), hS⟩)
    · cases h
  · cases h
theorem sx_ldi_ok {G0 G : Array Slot → List Value → Prop} {i : Nat} (rule : ∀ {x : Int32} {ls : Array Slot} {r : List Value}, ls[i]? = some (.val (.int x)) → G ls (.int x :: r) → G0 ls r) (h : sx_ldi L i S = some (L', S')) (K : sx_K ρ z σ nL G L' S') : sx_K ρ z σ nL G0 L S := by
  intro ls lv st hl hL hS
  unfold sx_ldi at h
  split at h
  · rename_i n hn
    cases h
    obtain ⟨k, x, h1, ⟨y, rfl, h2⟩⟩ := hL.at hn
    exact rule (lv_at hl k h1) (K ls lv _ hl hL ⟨sx_RVi h2, hS⟩)
  · cases h
theorem sx_ldl_ok {G0 G : Array Slot → List Value → Prop} {i : Nat} (rule : ∀ {x : Int64} {ls : Array Slot} {r : List Value}, ls[i]? = some (.val (.long x)) → G ls (.long x :: r) → G0 ls r) (h : sx_ldl L i S = some (L', S')) (K : sx_K ρ z σ nL G L' S') : sx_K ρ z σ nL G0 L S := by
  intro ls lv st hl hL hS
  unfold sx_ldl at h
  split at h
  · rename_i n hn
    cases h
    obtain ⟨k, x, h1, ⟨y, rfl, h2⟩⟩ := hL.at hn
    exact rule (lv_at hl k h1) (K ls lv _ hl hL ⟨sx_RVl h2, hS⟩)
  · cases h
theorem sx_ldr_ok {G0 G : Array Slot → List Value → Prop} {i : Nat} (rule : ∀ {o : Option Nat} {ls : Array Slot} {r : List Value}, ls[i]? = some (.val (va_rf o)) → G ls (va_rf o :: r) → G0 ls r) (h : sx_ldr L i S = some (L', S')) (K : sx_K ρ z σ nL G L' S') : sx_K ρ z σ nL G0 L S := by
  intro ls lv st hl hL hS
  unfold sx_ldr at h
  split at h
  · rename_i n hn
    cases h
    obtain ⟨k, x, h1, ⟨o, rfl, h2⟩⟩ := hL.at hn
    exact rule (lv_at hl k h1) (K ls lv _ hl hL ⟨sx_RVr h2, hS⟩)
  · cases h
theorem sx_sti_ok {mx : Nat} {G0 G : Array Slot → List Value → Prop} {i : Nat} (rule : ∀ {x : Int32} {ls : Array Slot} {lv : List (Nat × Value)} {r : List Value}, lv_has ls nL lv → i < mx → (∀ ls' : Array Slot, lv_has ls' nL ((i, .int x) :: lv.filter (fun q => !(q.1 == i) && !(q.1 + 1 == i && q.2.category == 2))) → G ls' r) → G0 ls (.int x :: r)) (h : sx_sti mx L i S = some (L', S')) (K : sx_K ρ z σ nL G L' S') : sx_K ρ z σ nL G0 L S := by
  intro ls lv st hl hL hS
  unfold sx_sti at h
  split at h
  · rename_i n S0
    cases hi : Nat.blt i mx with
    | false => rw [hi] at h; cases h
    | true =>
      rw [hi] at h
      cases h
      obtain ⟨x, r, rfl, ha, hS⟩ := hS.int
      exact rule hl (Nat.le_of_ble_eq_true hi) (fun ls' hl' => K ls' _ _ hl' (hL.st1 (sx_RVi ha)) hS)
  · cases h
theorem sx_stl_ok {mx : Nat} {G0 G : Array Slot → List Value → Prop} {i : Nat} (rule : ∀ {x : Int64} {ls : Array Slot} {lv : List (Nat × Value)} {r : List Value}, lv_has ls nL lv → i + 1 < mx → (∀ ls' : Array Slot, lv_has ls' nL ((i, .long x) :: lv.filter (fun q => !(q.1 == i) && (!(q.1 == i + 1) && !(q.1 + 1 == i && q.2.category == 2)))) → G ls' r) → G0 ls (.long x :: r)) (h : sx_stl mx L i S = some (L', S')) (K : sx_K ρ z σ nL G L' S') : sx_K ρ z σ nL G0 L S := by
  intro ls lv st hl hL hS
  unfold sx_stl at h
  split at h
  · rename_i n S0
    cases hi : Nat.blt (i + 1) mx with
    | false => rw [hi] at h; cases h
    | true =>
      rw [hi] at h
      cases h
      obtain ⟨x, r, rfl, ha, hS⟩ := hS.long
      exact rule hl (Nat.le_of_ble_eq_true hi) (fun ls' hl' => K ls' _ _ hl' (hL.st2 (sx_RVl ha)) hS)
  · cases h
theorem sx_str_ok {mx : Nat} {G0 G : Array Slot → List Value → Prop} {i : Nat} (rule : ∀ {o : Option Nat} {ls : Array Slot} {lv : List (Nat × Value)} {r : List Value}, lv_has ls nL lv → i < mx → (∀ ls' : Array Slot, lv_has ls' nL ((i, va_rf o) :: lv.filter (fun q => !(q.1 == i) && !(q.1 + 1 == i && q.2.category == 2))) → G ls' r) → G0 ls (va_rf o :: r)) (h : sx_str mx L i S = some (L', S')) (K : sx_K ρ z σ nL G L' S') : sx_K ρ z σ nL G0 L S := by
  intro ls lv st hl hL hS
  unfold sx_str at h
  split at h
  · rename_i n S0
    cases hi : Nat.blt i mx with
    | false => rw [hi] at h; cases h
    | true =>
      rw [hi] at h
      cases h
      obtain ⟨x, r, rfl, ha, hS⟩ := hS.ref
      exact rule hl (Nat.le_of_ble_eq_true hi) (fun ls' hl' => K ls' _ _ hl' (hL.st1 (sx_RVr ha)) hS)
  · cases h
theorem sx_inc_ok {mx : Nat} (hB : sx_okB σ B) {G0 G : Array Slot → List Value → Prop} {i : Nat} {n : Int} (rule : ∀ {k : Nat} {x : Int32} {ls : Array Slot} {lv : List (Nat × Value)} {r : List Value}, lv_has ls nL lv → i < mx → lv[k]? = some (i, .int x) → (∀ ls' : Array Slot, lv_has ls' nL ((i, .int (x + Int32.ofInt n)) :: lv.filter (fun q => !(q.1 == i) && !(q.1 + 1 == i && q.2.category == 2))) → G ls' r) → G0 ls r) (h : sx_inc B mx L i n S = some (L', S')) (K : sx_K ρ z σ nL G L' S') : sx_K ρ z σ nL G0 L S := by
  intro ls lv st hl hL hS
  unfold sx_inc at h
  split at h
  · rename_i v hv
    split at h
    · rename_i u hu
      cases hi : Nat.blt i mx with
      | false => rw [hi] at h; cases h
      | true =>
        rw [hi] at h
        cases h
        obtain ⟨k, x, h1, ⟨y, rfl, h2⟩⟩ := hL.at hv
        exact rule hl (Nat.le_of_ble_eq_true hi) h1 (fun ls' hl' => K ls' _ _ hl' (hL.st1 (sx_RVi (sx_nadd_ok hB hu h2 (sx_RNc n)))) hS)
    · cases h
  · cases h
set_option maxHeartbeats 8000000 in
theorem sx_pure_ok (hx : p.tables.exec = Jvm.exec) (hb : c.code = cc) (hB : sx_okB σ B) {ins : Instr} (hdg : decode cc pc = .ok (ins, sx_ilen ins)) (h : sx_pure B nL ins L S = some (L', S'))
    (K : sx_K ρ z σ nL (fun ls st => W p l e R s m args below meth c H locs cells slots Q (F0 m (pc + sx_ilen ins) ls st)) L' S') : sx_K ρ z σ nL (fun ls st => W p l e R s m args below meth c H locs cells slots Q (F0 m pc ls st)) L S := by
  unfold sx_pure at h
  split at h
  · cases h
    intro ls lv st hl hL hS
    exact lv_null hx hb hdg (K ls lv _ hl hL ⟨sx_RVr (o := none) rfl, hS⟩)
  · rename_i n
    cases h
    intro ls lv st hl hL hS
    exact lv_iconst hx hb hdg rfl (K ls lv _ hl hL ⟨sx_RVi (sx_RNc n), hS⟩)
  · rename_i n
    cases h
    intro ls lv st hl hL hS
    exact lv_bipush hx hb hdg rfl (K ls lv _ hl hL ⟨sx_RVi (by rw [← Int32.ofInt_int8ToInt]; exact sx_RNc _), hS⟩)
  · rename_i n
    cases h
    intro ls lv st hl hL hS
    exact lv_sipush hx hb hdg rfl (K ls lv _ hl hL ⟨sx_RVi (by rw [← Int32.ofInt_int16ToInt]; exact sx_RNc _), hS⟩)
  · rename_i n
    cases h
    intro ls lv st hl hL hS
    exact lv_lconst hx hb hdg rfl (K ls lv _ hl hL ⟨sx_RVl (by rw [← Int64.ofInt_eq_ofNat]; exact sx_RLc _), hS⟩)
  · exact sx_ldi_ok (fun q k => lv_iload hx hb hdg q k) h K
  · exact sx_ldi_ok (fun q k => lv_iload_n hx hb hdg rfl q k) h K
  · exact sx_ldl_ok (fun q k => lv_lload hx hb hdg q k) h K
  · exact sx_ldl_ok (fun q k => lv_lload_n hx hb hdg rfl q k) h K
  · exact sx_ldr_ok (fun {o ls r} q k => by cases o with
      | none => exact lv_aloadN hx hb hdg q k
      | some x => exact lv_aload hx hb hdg q k) h K
  · exact sx_ldr_ok (fun {o ls r} q k => by cases o with
      | none => exact lv_aload_nN hx hb hdg rfl q k
      | some x => exact lv_aload_n hx hb hdg rfl q k) h K
  · exact sx_sti_ok (fun hl hi k => lv_istore hx hb hdg hl hi rfl k) h K
  · exact sx_sti_ok (fun hl hi k => lv_istore_n hx hb hdg rfl hl hi rfl k) h K
  · exact sx_stl_ok (fun hl hi k => lv_lstore hx hb hdg hl hi rfl k) h K
  · exact sx_stl_ok (fun hl hi k => lv_lstore_n hx hb hdg rfl hl hi rfl k) h K
  · exact sx_str_ok (fun {o ls lv r} hl hi k => by cases o with
      | none => exact lv_astoreN hx hb hdg hl hi rfl k
      | some x => exact lv_astore hx hb hdg hl hi rfl k) h K
  · exact sx_str_ok (fun {o ls lv r} hl hi k => by cases o with
      | none => exact lv_astore_nN hx hb hdg rfl hl hi rfl k
      | some x => exact lv_astore_n hx hb hdg rfl hl hi rfl k) h K
  · exact sx_inc_ok hB (fun hl hi q k => lv_iinc hx hb hdg hl q rfl hi rfl k) h K
  · exact sx_i2_ok (sx_nadd_ok hB) (fun _ _ _ k => lv_iadd hx hb hdg k) h K
  · exact sx_i2_ok (sx_nsub_ok hB) (fun _ _ _ k => lv_isub hx hb hdg k) h K
  · exact sx_i2_ok sx_nmul_ok (fun _ _ _ k => lv_imul hx hb hdg k) h K
  · exact sx_i2_ok (sx_nand_ok hB) (fun _ _ _ k => lv_iand hx hb hdg k) h K
  · exact sx_i2_ok (sx_nor_ok hB) (fun _ _ _ k => lv_ior hx hb hdg k) h K
  · exact sx_i2_ok (f := sx_icc (fun x y => x ^^^ y)) (g := fun x y => x ^^^ y) sx_icc_ok (fun _ _ _ k => lv_ixor hx hb hdg k) h K
  · exact sx_i2_ok sx_nshl_ok (fun _ _ _ k => lv_ishl hx hb hdg k) h K
  · exact sx_i2_ok (sx_nshr_ok hB) (fun _ _ _ k => lv_ishr hx hb hdg k) h K
  · exact sx_i2_ok (f := sx_icc (fun x y => (x.toUInt32 >>> (y.toUInt32 &&& Int32.toUInt32 31)).toInt32)) (g := fun x y => (x.toUInt32 >>> (y.toUInt32 &&& Int32.toUInt32 31)).toInt32) sx_icc_ok (fun _ _ _ k => lv_iushr hx hb hdg rfl k) h K
  · exact sx_i2_ok (fun a b d => (sx_ndiv_ok hB a b d).1) (fun a b d k => lv_idiv hx hb hdg (sx_ndiv_ok hB a b d).2 k) h K
  · exact sx_i2_ok (fun a b d => (sx_nrem_ok hB a b d).1) (fun a b d k => lv_irem hx hb hdg (sx_nrem_ok hB a b d).2 k) h K
  · exact sx_i1_ok sx_nneg_ok (fun k => lv_ineg hx hb hdg k) h K
  · exact sx_i1_ok (sx_ni2b_ok hB) (fun k => lv_i2b hx hb hdg rfl k) h K
  · exact sx_i1_ok (sx_ni2c_ok hB) (fun k => lv_i2c hx hb hdg rfl k) h K
  · exact sx_l2_ok (fun a b d => by cases a; exact sx_ladd_ok b d) (fun _ _ _ k => lv_ladd hx hb hdg k) h K
  · exact sx_l2_ok (fun a b d => by cases a; exact sx_lsub_ok b d) (fun _ _ _ k => lv_lsub hx hb hdg k) h K
  · exact sx_l2_ok sx_lmul_ok (fun _ _ _ k => lv_lmul hx hb hdg k) h K
  · exact sx_l2_ok (fun a b d => by obtain ⟨z, h1, h2⟩ := Option.map_eq_some_iff.mp a; rw [← h2]; exact (sx_ldiv_ok hB h1 b d).1) (fun a b d k => by obtain ⟨z, h1, h2⟩ := Option.map_eq_some_iff.mp a; exact lv_ldiv hx hb hdg (sx_ldiv_ok hB h1 b d).2.2 k) h K
  · exact sx_l2_ok (fun a b d => by obtain ⟨z, h1, h2⟩ := Option.map_eq_some_iff.mp a; rw [← h2]; exact (sx_ldiv_ok hB h1 b d).2.1) (fun a b d k => by obtain ⟨z, h1, h2⟩ := Option.map_eq_some_iff.mp a; exact lv_lrem hx hb hdg (sx_ldiv_ok hB h1 b d).2.2 k) h K
  · exact sx_l2_ok (f := sx_lcc (fun x y => x &&& y)) (g := fun x y => x &&& y) sx_lcc_ok (fun _ _ _ k => lv_land hx hb hdg k) h K
  · exact sx_l2_ok (f := sx_lcc (fun x y => x ||| y)) (g := fun x y => x ||| y) sx_lcc_ok (fun _ _ _ k => lv_lor hx hb hdg k) h K
  · intro ls lv st hl hL hS
    split at h
    · cases h
      obtain ⟨x, r, rfl, ha, hS⟩ := hS.long
      exact lv_lneg hx hb hdg (K ls lv _ hl hL ⟨sx_RVl (sx_lneg_ok ha), hS⟩)
    · cases h
  · intro ls lv st hl hL hS
    split at h
    · split at h
      · rename_i u hu
        cases h
        obtain ⟨y, r, rfl, hb9, hS⟩ := hS.int
        obtain ⟨x, r, rfl, ha, hS⟩ := hS.long
        exact lv_lshl hx hb hdg rfl (K ls lv _ hl hL ⟨sx_RVl (sx_lsh_ok hu ha hb9), hS⟩)
      · cases h
    · cases h
  · intro ls lv st hl hL hS
    split at h
    · split at h
      · rename_i u hu
        cases h
        obtain ⟨y, r, rfl, hb9, hS⟩ := hS.int
        obtain ⟨x, r, rfl, ha, hS⟩ := hS.long
        exact lv_lshr hx hb hdg rfl (K ls lv _ hl hL ⟨sx_RVl (sx_lsh_ok hu ha hb9), hS⟩)
      · cases h
    · cases h
  · intro ls lv st hl hL hS
    split at h
    · split at h
      · rename_i u hu
        cases h
        obtain ⟨y, r, rfl, hb9, hS⟩ := hS.int
        obtain ⟨x, r, rfl, ha, hS⟩ := hS.long
        exact lv_lushr hx hb hdg rfl (K ls lv _ hl hL ⟨sx_RVl (sx_lsh_ok hu ha hb9), hS⟩)
      · cases h
    · cases h
  · intro ls lv st hl hL hS
    split at h
    · split at h
      · rename_i u hu
        cases h
        obtain ⟨y, r, rfl, hb9, hS⟩ := hS.long
        obtain ⟨x, r, rfl, ha, hS⟩ := hS.long
        exact W.lcmp hx hb hdg (K ls lv _ hl hL ⟨sx_RVi (sx_lcmp_ok hB hu ha hb9), hS⟩)
      · cases h
    · cases h
  · intro ls lv st hl hL hS
    split at h
    · split at h
      · rename_i u hu
        cases h
        obtain ⟨x, r, rfl, ha, hS⟩ := hS.int
        exact lv_i2l hx hb hdg rfl (K ls lv _ hl hL ⟨sx_RVl (sx_ni2l_ok hB hu ha), hS⟩)
      · cases h
    · cases h
  · intro ls lv st hl hL hS
    split at h
    · cases h
      obtain ⟨x, r, rfl, ha, hS⟩ := hS.long
      exact lv_l2i hx hb hdg rfl (K ls lv _ hl hL ⟨sx_RVi (sx_l2i_ok ha), hS⟩)
    · cases h
  · intro ls lv st hl hL hS
    split at h
    · rename_i v S0
      cases hv : sx_isL v with
      | true => rw [hv] at h; cases h
      | false =>
        rw [hv] at h
        cases h
        obtain ⟨x, r, rfl, ha, hS⟩ := hS.cons
        exact lv_dup hx hb hdg (sx_cat1 ha hv) (K ls lv _ hl hL ⟨ha, ha, hS⟩)
    · cases h
  · intro ls lv st hl hL hS
    split at h
    · rename_i v S0
      cases hv : sx_isL v with
      | true => rw [hv] at h; cases h
      | false =>
        rw [hv] at h
        cases h
        obtain ⟨x, r, rfl, ha, hS⟩ := hS.cons
        exact lv_pop hx hb hdg (sx_cat1 ha hv) (K ls lv _ hl hL hS)
    · cases h
  · intro ls lv st hl hL hS
    split at h
    · rename_i v u S0
      cases hv : sx_isL v with
      | true => simp only [hv, Bool.true_or, cond_true] at h; cases h
      | false =>
        cases hu : sx_isL u with
        | true => simp only [hv, hu, Bool.or_true, cond_true] at h; cases h
        | false =>
          simp only [hv, hu, Bool.or_false, cond_false] at h
          cases h
          obtain ⟨x, r, rfl, ha, hS⟩ := hS.cons
          obtain ⟨y, r, rfl, hb9, hS⟩ := hS.cons
          exact lv_dup_x1 hx hb hdg (sx_cat1 ha hv) (sx_cat1 hb9 hu) (K ls lv _ hl hL ⟨ha, hb9, ha, hS⟩)
    · cases h
  · intro ls lv st hl hL hS
    split at h
    · rename_i v S0
      cases hv : sx_isL v with
      | true =>
        rw [hv] at h
        cases h
        obtain ⟨x, r, rfl, ha, hS⟩ := hS.cons
        exact lv_dup2_2 hx hb hdg (sx_cat2 ha hv) (K ls lv _ hl hL ⟨ha, ha, hS⟩)
      | false =>
        rw [hv] at h
        simp only [cond_false] at h
        split at h
        · rename_i u S1
          cases hu : sx_isL u with
          | true => rw [hu] at h; cases h
          | false =>
            rw [hu] at h
            cases h
            obtain ⟨x, r, rfl, ha, hS⟩ := hS.cons
            obtain ⟨y, r, rfl, hb9, hS⟩ := hS.cons
            exact lv_dup2_11 hx hb hdg (sx_cat1 ha hv) (sx_cat1 hb9 hu) (K ls lv _ hl hL ⟨ha, hb9, ha, hb9, hS⟩)
        · cases h
    · cases h
  · cases h
end SXP
