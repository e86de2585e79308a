/-! one instruction; a run of a method in symbols -/
abbrev sx_M : Type := MethodName × ByteArray × Nat × Option FieldType × sx_T sx_R 10
def sx_row (M : sx_M) (r : Nat) : Option sx_R := sx_look 10 M.2.2.2.2 r
def sx_rpc (M : sx_M) (r : Nat) : Nat := match sx_row M r with
  | some x => x.1
  | none => 0
/-- row, locals, stack, world, next id, cells and slots made -/
abbrev sx_S : Type := Nat × List (Nat × sx_V) × List sx_V × sx_W × Nat × Nat × Nat
def sx_asl (B : sx_Bs) (L : List (Nat × sx_V)) (S : List sx_V) (w : sx_W) (nx : Nat) : Option sx_ST := match S with
  | .inr (.inl v) :: .inl i :: .inr (.inr (some (.inl a))) :: S => (match sx_look 12 w a with
    | some (.inr (t, n, zr, u)) => bif Nat.beq t 4 then (match sx_ix n i with
      | some k => some (L, S, sx_upd (.inr (t, n, zr, sx_put u k (.inr (.inl v)))) 12 w a, nx, 0, 0)
      | none => none) else none
    | _ => none)
  | _ => none
def sx_bkt (t : Nat) : Option Nat := match t with
  | 1 => some 2
  | 2 => some 1
  | _ => none
def sx_mem (B : sx_Bs) (ins : Instr) (aux : List Nat) (cst : Int) (L : List (Nat × sx_V)) (S : List sx_V) (w : sx_W) (nx : Nat) : Option sx_ST := match ins with
  | .iaload => sx_or (sx_ald (fun t => Nat.beq t 0) L S w nx) (sx_aldx sx_intq L S w nx)
  | .baload => sx_or (sx_ald (fun t => Nat.beq t 1 || Nat.beq t 2) L S w nx) (sx_aldx sx_bytq L S w nx)
  | .caload => sx_ald (fun t => Nat.beq t 3) L S w nx
  | .laload => sx_ald (fun t => Nat.beq t 4) L S w nx
  | .aaload => sx_ald (fun t => Nat.ble 5 t && Nat.blt t 13) L S w nx
  | .arraylength => sx_alen L S w nx
  | .iastore => sx_ast B (fun t => bif Nat.beq t 0 then some 0 else none) L S w nx
  | .bastore => sx_ast B sx_bkt L S w nx
  | .castore => sx_ast B (fun t => bif Nat.beq t 3 then some 3 else none) L S w nx
  | .lastore => sx_asl B L S w nx
  | .aastore => sx_asq L S w nx
  | .getfield _ => sx_getf aux L S w nx
  | .putfield _ => sx_putf B aux L S w nx
  | .new _ => sx_new aux L S w nx
  | .newarray _ => sx_newa aux L S w nx
  | .anewarray _ => sx_newa aux L S w nx
  | .checkcast _ => sx_cast false aux L S w nx
  | .instanceof _ => sx_cast true aux L S w nx
  | .ldc _ => sx_ldc aux cst L S w nx
  | .ldc_w _ => sx_ldc aux cst L S w nx
  | .ldc2_w _ => sx_ldc aux cst L S w nx
  | .getstatic _ => sx_gets aux L S w nx
  | _ => none
def sx_lsw : List (Int × Int) → List Nat → Nat → Int → Nat
  | a :: ps, r :: rs, rd, x => bif sx_eq a.1 x then r else sx_lsw ps rs rd x
  | _, _, rd, _ => rd
def sx_swi (ins : Instr) (aux : List Nat) (S : List sx_V) : Option (List sx_V × Nat) := match S with
  | .inl (.inl (x, [])) :: S => bif sx_le (-2147483648) x && sx_le x 2147483647 then (match ins, aux with
    | .tableswitch _ lo hi _, r0 :: rs => bif sx_le lo x && sx_le x hi then (match rs[(x - lo).toNat]? with
      | some r => some (S, r)
      | none => none) else some (S, r0)
    | .lookupswitch _ ps, r0 :: rs => some (S, sx_lsw ps.toList rs r0 x)
    | _, _ => none) else none
  | _ => none
def sx_step1 (B : sx_Bs) (mx : Nat) (x : sx_R) (c : sx_S) : Option sx_S := match c with
  | (r, L, S, w, nx, k, n) => (match sx_pure B mx x.2.1 L S with
    | some q => some (r + 1, q.1, q.2, w, nx, k, n)
    | none => (match sx_jmp B x.2.1 S with
      | some q => some ((bif q.2 then x.2.2.2.1.headD 0 else r + 1), L, q.1, w, nx, k, n)
      | none => (match sx_swi x.2.1 x.2.2.2.1 S with
        | some q => some (q.2, L, q.1, w, nx, k, n)
        | none => (match sx_mem B x.2.1 x.2.2.2.1 x.2.2.2.2 L S w nx with
          | some q => some (r + 1, q.1, q.2.1, q.2.2.1, q.2.2.2.1, k + q.2.2.2.2.1, n + q.2.2.2.2.2)
          | none => none))))
def sx_isret (ins : Instr) : Bool := match ins with
  | .ireturn => true
  | .lreturn => true
  | .areturn => true
  | .return_ => true
  | _ => false
/-- what a method gives that stands at its end -/
def sx_ret (B : sx_Bs) (M : sx_M) (c : sx_S) : Option (List sx_V) := match sx_row M c.1 with
  | none => none
  | some x => (match x.2.1, c.2.2.1, M.2.2.2.1 with
    | .ireturn, [.inl v], some ty => bif Nat.blt (sx_code ty) 4 && sx_fit B (sx_code ty) (.inl v) then some [.inl v] else none
    | .lreturn, [.inr (.inl v)], some .long => some [.inr (.inl v)]
    | .areturn, [.inr (.inr v)], some (.object _) => some [.inr (.inr v)]
    | .areturn, [.inr (.inr v)], some (.array _) => some [.inr (.inr v)]
    | .return_, [], none => some []
    | _, _, _ => none)
/-- the locals with which a method begins, and how many places values take -/
def sx_ent : Nat → List sx_V → List (Nat × sx_V)
  | _, [] => []
  | i, v :: vs => (i, v) :: sx_ent (bif sx_isL v then i + 2 else i + 1) vs
def sx_sl : List sx_V → Nat
  | [] => 0
  | v :: vs => (bif sx_isL v then 2 else 1) + sx_sl vs
def sx_isinv (ins : Instr) : Bool := match ins with
  | .invokevirtual _ => true
  | .invokespecial _ => true
  | .invokestatic _ => true
  | _ => false
/-- a call: the method, its arguments, the stack behind -/
def sx_prep (P : Nat → Option sx_M) (x : sx_R) (c : sx_S) : Option (sx_M × List sx_V × List sx_V) := bif !sx_isinv x.2.1 then none else match x.2.2.2.1 with
  | kd :: mj :: n :: ci :: _ => (match P mj with
    | none => none
    | some M' => (match kd with
      | 2 => bif Nat.ble n c.2.2.1.length then some (M', (c.2.2.1.take n).reverse, c.2.2.1.drop n) else none
      | 4 => bif Nat.ble n c.2.2.1.length then some (M', (c.2.2.1.take n).reverse, c.2.2.1.drop n) else none
      | 9 => none
      | _ => (match c.2.2.1.drop n with
        | .inr (.inr (some (.inl a))) :: S => (match sx_look 12 c.2.2.2.1 a with
          | some (.inl (cj, _)) => bif Nat.beq cj ci || Nat.beq kd 1 || Nat.beq kd 5 then some (M', (sx_id a) :: (c.2.2.1.take n).reverse, S) else none
          | _ => none)
        | .inr (.inr (some (.inr q))) :: S => bif Nat.beq kd 0 && Nat.beq (q % 2) 0 && Nat.ble 100 q && Nat.blt q 166 && (match vwCl[ci]? with
          | some v => decide (v.1 = "java/lang/String")
          | none => false) then some (M', (sx_ext q) :: (c.2.2.1.take n).reverse, S) else none
        | _ => none)))
  | _ => none
abbrev sx_Pr : Type := Nat → Nat → sx_M → sx_R → sx_S → Option sx_S
def sx_ex (P : Nat → Option sx_M) (B : sx_Bs) (pr : sx_Pr) : Nat → Nat → Nat → sx_M → Nat → Bool → sx_S → Option sx_S
  | 0, _, _, _, _, _, _ => none
  | n + 1, fr, lo, M, stop, fst, c => bif !fst && Nat.beq c.1 stop then some c else
    match sx_row M c.1 with
    | none => none
    | some x => bif sx_isret x.2.1 then some c else
      match sx_step1 B M.2.2.1 x c with
      | some c' => sx_ex P B pr n fr lo M stop false c'
      | none => match sx_prep P x c with
        | none => (match pr fr lo M x c with
          | some c' => sx_ex P B pr n fr lo M stop false c'
          | none => none)
        | some q => bif Nat.ble 1 fr && Nat.ble (q.1.2.2.1 + 19) lo && Nat.ble (sx_sl q.2.1) q.1.2.2.1 && Nat.ble (sx_sl q.2.2) 8 then
            (match sx_ex P B pr n (fr - 1) (lo - (q.1.2.2.1 + 19)) q.1 100000 true (0, sx_ent 0 q.2.1, [], c.2.2.2.1, c.2.2.2.2.1, 0, 0) with
            | none => none
            | some c2 => (match sx_ret B q.1 c2 with
              | none => none
              | some rv => sx_ex P B pr n fr lo M stop false (c.1 + 1, c.2.1, rv ++ q.2.2, c2.2.2.2.1, c2.2.2.2.2.1, c.2.2.2.2.2.1 + c2.2.2.2.2.2.1, c.2.2.2.2.2.2 + c2.2.2.2.2.2.2)))
          else none
/-! what the rows have to be -/
def sx_ym (y : MethodName) : Bool := decide (y.cls ≠ "java/lang/invoke/MethodHandle") && decide (y.cls ≠ "java/lang/invoke/VarHandle")
def sx_np (y : MethodName) (n : Nat) : Bool := decide ((parseMethodDescriptor y.desc).map (fun d => d.parameters.length) = some n)
def sx_okcall (P : Nat → Option sx_M) (tbs : List (List Cond)) (own : String) (ins : Instr) (aux : List Nat) : Bool := match aux with
  | [kd, mj, n, ci, t1, t2, t3, t4, t5, t6] => (match P mj with
    | none => true
    | some M' => sx_has tbs t4 (.initialized M'.1.cls) && decide (M'.1.name ≠ "law") && sx_np M'.1 n && plainName M'.1.cls && sx_ym M'.1 && (match kd, ins with
      | 0, .invokevirtual idx => sx_has tbs t1 (.methodLink own idx M'.1) && sx_has tbs t2 (.instanceMethod M'.1) && sx_has tbs t3 (.selects M'.1.cls M'.1 M'.1) && (match vwCl[ci]? with
        | some v => decide (v.1 = M'.1.cls)
        | none => false)
      | 1, .invokespecial idx => sx_has tbs t1 (.methodLink own idx M'.1) && sx_has tbs t2 (.instanceMethod M'.1) && decide (M'.1.name = "<init>") && decide (M'.2.2.2.1 = none)
      | 2, .invokestatic idx => sx_has tbs t1 (.methodLink own idx M'.1) && sx_has tbs t2 (.static M'.1)
      | 3, .invokevirtual idx => sx_has tbs t2 (.instanceMethod M'.1) && sx_has tbs t3 (.selects M'.1.cls M'.1 M'.1) && (match vwCl[ci]? with
        | some v => decide (v.1 = M'.1.cls)
        | none => false) && (match sk_nest[t1]? with
        | some (.methodLinkNest o i y _) => decide (o = own ∧ i = idx ∧ y = M'.1)
        | _ => false)
      | 4, .invokestatic idx => sx_has tbs t2 (.static M'.1) && (match sk_nest[t1]? with
        | some (.methodLinkNest o i y _) => decide (o = own ∧ i = idx ∧ y = M'.1)
        | _ => false)
      | 5, .invokespecial idx => sx_has tbs t2 (.instanceMethod M'.1) && decide (M'.1.name = "<init>") && decide (M'.2.2.2.1 = none) && (match sk_nest[t1]? with
        | some (.methodLinkNest o i y _) => decide (o = own ∧ i = idx ∧ y = M'.1)
        | _ => false)
      | 6, .invokevirtual idx => (match sx_w tbs t1, vwCl[ci]? with
        | some (.methodLink o i xn), some v => decide (o = own ∧ i = idx ∧ M'.1 = ⟨M'.1.cls, xn.name, xn.desc⟩) && sx_has tbs t6 (.sameMethod xn.cls M'.1.cls xn.name xn.desc) && sx_has tbs t3 (.selects v.1 xn M'.1) && sx_has tbs t2 (.instanceMethod M'.1) && sx_np xn n
        | _, _ => false)
      | 8, .invokespecial idx => sx_has tbs t1 (.methodLink own idx M'.1) && sx_has tbs t2 (.instanceMethod M'.1) && sx_has tbs t3 (.superclass own M'.1.cls) && sx_has tbs t6 (.sameMethod M'.1.cls M'.1.cls M'.1.name M'.1.desc) && decide (M'.1.name ≠ "<init>") && (vwCl[ci]?).isSome
      | _, _ => false))
  | kd :: _ => Nat.beq kd 9
  | _ => true
def sx_fall (M : sx_M) (r : Nat) (x : sx_R) : Bool := Nat.beq x.2.2.1 (sx_ilen x.2.1) && Nat.beq (sx_rpc M (r + 1)) (x.1 + x.2.2.1)
def sx_okjt (M : sx_M) (x : sx_R) (o : Int) : Bool := sx_eq ((x.1 : Int) + o) ((sx_rpc M (x.2.2.2.1.headD 0) : Nat) : Int)
def sx_oktgs (M : sx_M) (pc : Nat) : List Int → List Nat → Bool
  | [], [] => true
  | o :: os, r :: rs => sx_eq ((pc : Int) + o) ((sx_rpc M r : Nat) : Int) && sx_oktgs M pc os rs
  | _, _ => false
def sx_okR (P : Nat → Option sx_M) (tbs : List (List Cond)) (M : sx_M) (r : Nat) (x : sx_R) : Bool := decide (decode M.2.1 x.1 = .ok (x.2.1, x.2.2.1)) && (match x.2.1 with
  | .goto o => Nat.beq x.2.2.1 3 && sx_okjt M x o
  | .if_icmp _ o => sx_fall M r x && sx_okjt M x o
  | .ifCond _ o => sx_fall M r x && sx_okjt M x o
  | .if_acmp _ o => sx_fall M r x && sx_okjt M x o
  | .ifnull o => sx_fall M r x && sx_okjt M x o
  | .ifnonnull o => sx_fall M r x && sx_okjt M x o
  | .tableswitch d lo hi os => sx_oktgs M x.1 (d :: os.toList) x.2.2.2.1 && sx_le (-2147483648) lo && sx_le hi 2147483647
  | .lookupswitch d ps => sx_oktgs M x.1 (d :: ps.toList.map Prod.snd) x.2.2.2.1 && (ps.toList.zip (ps.toList.drop 1)).all (fun (a, next) => a.1 < next.1)
  | .ireturn => Nat.beq x.2.2.1 1
  | .lreturn => Nat.beq x.2.2.1 1
  | .areturn => Nat.beq x.2.2.1 1
  | .return_ => Nat.beq x.2.2.1 1
  | .athrow => true
  | .getfield idx => sx_fall M r x && (x.2.2.2.1.isEmpty || sx_okgetf tbs M.1.cls idx x.2.2.2.1)
  | .putfield idx => sx_fall M r x && (x.2.2.2.1.isEmpty || sx_okputf tbs M.1.cls M.1.name idx x.2.2.2.1)
  | .new idx => sx_fall M r x && (x.2.2.2.1.isEmpty || sx_oknew tbs M.1.cls idx x.2.2.2.1)
  | .newarray a => sx_fall M r x && (x.2.2.2.1.isEmpty || sx_oknewa tbs a x.2.2.2.1)
  | .anewarray idx => sx_fall M r x && (x.2.2.2.1.isEmpty || sx_oknewq tbs M.1.cls idx x.2.2.2.1)
  | .checkcast idx => sx_fall M r x && (x.2.2.2.1.isEmpty || sx_okcast tbs M.1.cls idx x.2.2.2.1)
  | .instanceof idx => sx_fall M r x && (x.2.2.2.1.isEmpty || sx_okcast tbs M.1.cls idx x.2.2.2.1)
  | .ldc idx => sx_fall M r x && (x.2.2.2.1.isEmpty || sx_okldc tbs M.1.cls false idx x.2.2.2.1 x.2.2.2.2)
  | .ldc_w idx => sx_fall M r x && (x.2.2.2.1.isEmpty || sx_okldc tbs M.1.cls false idx x.2.2.2.1 x.2.2.2.2)
  | .ldc2_w idx => sx_fall M r x && (x.2.2.2.1.isEmpty || sx_okldc tbs M.1.cls true idx x.2.2.2.1 x.2.2.2.2)
  | .getstatic idx => sx_fall M r x && (x.2.2.2.1.isEmpty || sx_okgets tbs M.1.cls idx x.2.2.2.1)
  | .invokevirtual _ => sx_fall M r x && sx_okcall P tbs M.1.cls x.2.1 x.2.2.2.1
  | .invokespecial _ => sx_fall M r x && sx_okcall P tbs M.1.cls x.2.1 x.2.2.2.1
  | .invokestatic _ => sx_fall M r x && sx_okcall P tbs M.1.cls x.2.1 x.2.2.2.1
  | _ => sx_fall M r x)
/-- the whole program's rows -/
def sx_PG (P : Nat → Option sx_M) (tbs : List (List Cond)) : Prop := ∀ mi M, P mi = some M → sx_rpc M 0 = 0 ∧ (M.1.name ≠ "law" → ∃ t, sx_w tbs t = some (.code M.1 M.2.1 M.2.2.1 M.2.2.2.1)) ∧ ∀ r x, sx_row M r = some x → sx_okR P tbs M r x = true
