/-! words of the tables by their places; rows; the machine's state -/
def sx_w (tbs : List (List Cond)) (t : Nat) : Option Cond := match tbs[t / 32]? with
  | some l => l[t % 32]?
  | none => none
def sx_tbOK (tbs : List (List Cond)) (tb : List Cond) : Prop := ∀ l ∈ tbs, ∀ w ∈ l, w ∈ tb
theorem sx_w_in {tbs : List (List Cond)} {tb : List Cond} (h : sx_tbOK tbs tb) {t : Nat} {w : Cond} (hw : sx_w tbs t = some w) : w ∈ tb := by
  unfold sx_w at hw
  split at hw
  · rename_i l hl
    exact h l (List.mem_of_getElem? hl) w (List.mem_of_getElem? hw)
  · cases hw
def sx_has (tbs : List (List Cond)) (t : Nat) (w : Cond) : Bool := match sx_w tbs t with
  | some v => decide (v = w)
  | none => false
theorem sx_has_in {tbs : List (List Cond)} {tb : List Cond} (h : sx_tbOK tbs tb) {t : Nat} {w : Cond} (hw : sx_has tbs t w = true) : w ∈ tb := by
  unfold sx_has at hw
  split at hw
  · rename_i v hv
    rw [← of_decide_eq_true hw]
    exact sx_w_in h hv
  · cases hw
/-- types of arrays -/
def sx_tyo : List String := ["GoalHouse$Val", "GoalHouse$Program", "GoalHouse$Run", "GoalHouse$Proc", "GoalHouse$Node", "GoalHouse$Val", "java/lang/Object", "GoalHouse$Val"]
def sx_tyF : List FieldType := [.int, .byte, .boolean, .char, .long] ++ sx_tyo.map .object
def sx_tysF (cA : Nat → ClassId) : Nat → List FieldType → List (ClassId × FieldType)
  | _, [] => []
  | i, t :: r => (cA i, t) :: sx_tysF cA (i + 1) r
theorem sx_tysF_at (cA : Nat → ClassId) : ∀ (r : List FieldType) (i k : Nat), (sx_tysF cA i r)[k]? = (r[k]?).map (fun t => (cA (i + k), t))
  | [], i, k => rfl
  | t :: r, i, 0 => rfl
  | t :: r, i, k + 1 => by
    show (sx_tysF cA (i + 1) r)[k]? = (r[k]?).map (fun t => (cA (i + (k + 1)), t))
    rw [sx_tysF_at cA r (i + 1) k, show i + 1 + k = i + (k + 1) by omega]
abbrev sx_tys (cA : Nat → ClassId) : List (ClassId × FieldType) := sx_tysF cA 0 sx_tyF
theorem sx_tys_at {cA : Nat → ClassId} {k : Nat} {t : FieldType} (h : sx_tyF[k]? = some t) : (sx_tys cA)[k]? = some (cA k, t) := by
  rw [sx_tysF_at, h, Nat.zero_add]
  rfl
theorem sx_tyq {t : Nat} (h : 5 ≤ t) {ty : FieldType} (ht : sx_tyF[t]? = some ty) : ∃ C, ty = .object C := by
  unfold sx_tyF at ht
  rw [List.getElem?_append_right (by show 5 ≤ t; exact h), List.getElem?_map] at ht
  obtain ⟨C, -, hC⟩ := Option.map_eq_some_iff.mp ht
  exact ⟨C, hC.symm⟩
/-- the state in symbols stands for this heap; Fr are cells that nobody here touches -/
def sx_IN (D : va_G) (cA : Nat → ClassId) (ρ : Nat → Option Nat) (z : Nat → Nat) (σ : Nat → Int) (Fr : va_W) (A : Nat → Prop) (w : sx_W) (nx : Nat) (wl : va_W) (H : Heap) : Prop :=
  sx_Rep ρ z σ cA w wl ∧ (∀ i a, ρ i = some a → i < nx ∧ ∃ (k : Nat) (e : va_E), wl[k]? = some (a, e)) ∧ (∀ i j a, ρ i = some a → ρ j = some a → i = j) ∧ (∀ x ∈ Fr, (∃ k : Nat, wl[k]? = some x) ∧ ∀ i, ρ i ≠ some x.1) ∧ va_P D vwCl wl H ∧ va_D A wl
section SXI
variable {D : va_G} {cA : Nat → ClassId} {ρ : Nat → Option Nat} {z : Nat → Nat} {σ : Nat → Int} {Fr : va_W} {A : Nat → Prop} {w : sx_W} {nx : Nat} {wl : va_W} {H H1 : Heap}
theorem sx_IN.set (h : sx_IN D cA ρ z σ Fr A w nx wl H) {i k a : Nat} {e e0 : va_E} {c : sx_C} (hi : ρ i = some a) (hk : wl[k]? = some (a, e0)) (hc : sx_RC ρ z σ cA c e) (hP : va_P D vwCl (wl.set k (a, e)) H1) (hD : va_D A (wl.set k (a, e))) : sx_IN D cA ρ z σ Fr A (sx_upd c 12 w i) nx (wl.set k (a, e)) H1 := by
  obtain ⟨h1, h2, h3, h4, -, -⟩ := h
  have hl := (List.getElem?_eq_some_iff.mp hk).1
  refine ⟨?_, ?_, h3, ?_, hP, hD⟩
  · intro j c' hj
    rcases sx_look_upd 12 hj with ⟨rfl, rfl⟩ | ⟨hne, hj⟩
    · exact ⟨k, a, e, by rw [List.getElem?_set_self hl], hi, hc⟩
    · obtain ⟨k', a', e', q1, q2, q3⟩ := h1 j c' hj
      refine ⟨k', a', e', ?_, q2, q3⟩
      by_cases hkk : k' = k
      · subst hkk
        rw [hk] at q1
        cases q1
        exact absurd (h3 j i _ q2 hi) hne
      · rw [List.getElem?_set_ne (Ne.symm hkk)]
        exact q1
  · intro j a' hj
    obtain ⟨q0, k', e', q1⟩ := h2 j a' hj
    refine ⟨q0, ?_⟩
    by_cases hkk : k' = k
    · subst hkk
      rw [hk] at q1
      cases q1
      exact ⟨k', e, by rw [List.getElem?_set_self hl]⟩
    · exact ⟨k', e', by rw [List.getElem?_set_ne (Ne.symm hkk)]; exact q1⟩
  · intro x hx
    obtain ⟨⟨k', q1⟩, q2⟩ := h4 x hx
    refine ⟨⟨k', ?_⟩, q2⟩
    by_cases hkk : k' = k
    · subst hkk
      rw [hk] at q1
      cases q1
      exact absurd hi (q2 i)
    · rw [List.getElem?_set_ne (Ne.symm hkk)]
      exact q1
theorem sx_IN.new (h : sx_IN D cA ρ z σ Fr A w nx wl H) {q : Nat} {e : va_E} {c : sx_C} (hP : va_P D vwCl (wl ++ [(q, e)]) H1) (hD : va_D A (wl ++ [(q, e)])) (hc : ∀ ρ', sx_ge ρ ρ' → sx_RC ρ' z σ cA c e) : ∃ ρ', sx_ge ρ ρ' ∧ ρ' nx = some q ∧ sx_IN D cA ρ' z σ Fr A (sx_upd c 12 w nx) (nx + 1) (wl ++ [(q, e)]) H1 := by
  obtain ⟨h1, h2, h3, h4, -, -⟩ := h
  have fresh : ∀ (k : Nat) (a : Nat) (e' : va_E), wl[k]? = some (a, e') → a ≠ q := by
    intro k a e' hk hq
    have hl := (List.getElem?_eq_some_iff.mp hk).1
    have := hD.1 k wl.length (a, e') (q, e) (by rw [List.getElem?_append_left hl]; exact hk) (by rw [List.getElem?_append_right (Nat.le_refl _), Nat.sub_self]; rfl) hq
    omega
  have hge : sx_ge ρ (fun j => if j = nx then some q else ρ j) := by
    intro i a hi
    have := (h2 i a hi).1
    show (if i = nx then some q else ρ i) = some a
    rw [if_neg (by omega)]
    exact hi
  have inl : ∀ {k : Nat} {x : Nat × va_E}, wl[k]? = some x → (wl ++ [(q, e)])[k]? = some x := fun {k x} hk => by
    rw [List.getElem?_append_left (List.getElem?_eq_some_iff.mp hk).1]
    exact hk
  refine ⟨fun j => if j = nx then some q else ρ j, hge, by show (if nx = nx then some q else ρ nx) = _; rw [if_pos rfl], ?_, ?_, ?_, ?_, hP, hD⟩
  · intro j c' hj
    rcases sx_look_upd 12 hj with ⟨rfl, rfl⟩ | ⟨hne, hj⟩
    · exact ⟨wl.length, q, e, by rw [List.getElem?_append_right (Nat.le_refl _), Nat.sub_self]; rfl, by show (if j = j then some q else ρ j) = _; rw [if_pos rfl], hc _ hge⟩
    · obtain ⟨k', a', e', q1, q2, q3⟩ := h1 j c' hj
      exact ⟨k', a', e', inl q1, hge j a' q2, q3.mono hge⟩
  · intro j a hj
    have hj : (if j = nx then some q else ρ j) = some a := hj
    split at hj
    · rename_i e1
      cases hj
      exact ⟨by omega, wl.length, e, by rw [List.getElem?_append_right (Nat.le_refl _), Nat.sub_self]; rfl⟩
    · obtain ⟨q0, k', e', q1⟩ := h2 j a hj
      exact ⟨by omega, k', e', inl q1⟩
  · intro i j a hi hj
    have hi : (if i = nx then some q else ρ i) = some a := hi
    have hj : (if j = nx then some q else ρ j) = some a := hj
    split at hi <;> split at hj
    · omega
    · cases hi
      obtain ⟨-, k', e', q1⟩ := h2 j _ hj
      exact absurd rfl (fresh _ _ _ q1)
    · cases hj
      obtain ⟨-, k', e', q1⟩ := h2 i _ hi
      exact absurd rfl (fresh _ _ _ q1)
    · exact h3 i j a hi hj
  · intro x hx
    obtain ⟨⟨k', q1⟩, q2⟩ := h4 x hx
    refine ⟨⟨k', inl q1⟩, fun i hi => ?_⟩
    have hi : (if i = nx then some q else ρ i) = some x.1 := hi
    split at hi
    · cases hi
      exact absurd rfl (fresh k' x.1 x.2 q1)
    · exact q2 i hi
end SXI
/-- whatever heap and frame the state in symbols stands for: it comes to Q -/
def sx_KM (p : Program) (l : Launch) (e : Env) (R : Room) (s : State) (m : MethodId) (args : Array Value) (below : List Frame) (meth : Method) (c : Code) (Q : State → Prop) (D : va_G) (cA : Nat → ClassId) (z : Nat → Nat) (σ : Nat → Int) (Fr : va_W) (A : Nat → Prop) (nL pc cells slots : Nat) (ρ : Nat → Option Nat) (L : List (Nat × sx_V)) (S : List sx_V) (w : sx_W) (nx : Nat) : Prop :=
  ∀ (wl : va_W) (H : Heap) (locs : List Loc), sx_IN D cA ρ z σ Fr A w nx wl H → va_S A s.heap H locs → sx_K ρ z σ nL (fun ls st => W p l e R s m args below meth c H locs cells slots Q (F0 m pc ls st)) L S
/-- what holds throughout a method -/
def sx_CX (p : Program) (s : State) (m : MethodId) (args : Array Value) (meth : Method) (c : Code) (D : va_G) (cA : Nat → ClassId) (z : Nat → Nat) (σ : Nat → Int) (B : sx_Bs) (A : Nat → Prop) (tb : List Cond) (own mname : String) (cc : ByteArray) (nL : Nat) : Prop :=
  p.tables.exec = Jvm.exec ∧ c.code = cc ∧ c.maxLocals = nL ∧ (∀ w ∈ tb, w.before args s = true) ∧ s.vm.findClass own = some m.cls ∧ va_K D vwCl (sx_tys cA) s ∧ SR z A s s.heap ∧ sx_okB σ B ∧ (∀ q, s.heap.size ≤ q → A q) ∧ meth.name = mname
/-- a class's fields, as the tables lay them -/
def sx_clOK (tb : List Cond) (ci : Nat) : Prop := ∀ q : vw_C, vwCl[ci]? = some q → (∀ w ∈ u_ws q.1 q.2.1 q.2.2, w ∈ tb) ∧ (∃ ty : Nat → FieldType, ∀ k, k < q.2.2 → parseFieldDescriptor (q.2.1 k).2.2.1 = some (ty k)) ∧ (∀ a, a < q.2.2 → ∀ b, b < q.2.2 → a ≠ b → (q.2.1 a).2.1 ≠ (q.2.1 b).2.1)
/-- a row: its place in the code, the instruction, its length, what its names stand for -/
abbrev sx_R : Type := Nat × Instr × Nat × List Nat × Int
/-- which kind of value a field has -/
def sx_code : FieldType → Nat
  | .int => 0
  | .boolean => 1
  | .byte => 2
  | .char => 3
  | .long => 4
  | .object _ => 5
  | .array _ => 5
  | _ => 9
def sx_fit (B : sx_Bs) (ft : Nat) (v : sx_V) : Bool := match v with
  | .inl n => (match ft with
    | 0 => true
    | 1 => (match sx_rn B n with
      | some r => sx_le 0 r.1 && sx_le r.2 1
      | none => false)
    | 2 => (match sx_rn B n with
      | some r => sx_le (-128) r.1 && sx_le r.2 127
      | none => false)
    | 3 => (match sx_rn B n with
      | some r => sx_le 0 r.1 && sx_le r.2 65535
      | none => false)
    | _ => false)
  | .inr (.inl _) => Nat.beq ft 4
  | .inr (.inr _) => Nat.beq ft 5
theorem sx_nar1 {i : Int} (h0 : 0 ≤ i) (h1 : i ≤ 1) : Int32.ofInt i &&& 1 = Int32.ofInt i ∧ (Int32.ofInt i == 0 || Int32.ofInt i == 1) = true := by
  have : i = 0 ∨ i = 1 := by omega
  rcases this with rfl | rfl <;> decide
theorem sx_nar8 {i : Int} (h0 : -128 ≤ i) (h1 : i ≤ 127) : (Int32.ofInt i).toInt8.toInt32 = Int32.ofInt i ∧ (decide (-128 ≤ Int32.ofInt i) && decide (Int32.ofInt i ≤ 127)) = true := by
  refine ⟨?_, ?_⟩
  · rw [← Int32.ofInt_int8ToInt, Int32.toInt8_ofInt, Int8.toInt_ofInt_of_le (by omega) (by omega)]
  · rw [Bool.and_eq_true, decide_eq_true_iff, decide_eq_true_iff, Int32.le_iff_toInt_le, Int32.le_iff_toInt_le, Int32.toInt_ofInt_of_le (by omega) (by omega)]
    exact ⟨by show (-128 : Int) ≤ i; omega, by show i ≤ (127 : Int); omega⟩
theorem sx_nar16 {i : Int} (h0 : 0 ≤ i) (h1 : i ≤ 65535) : (Int32.ofInt i).toUInt32.toUInt16.toUInt32.toInt32 = Int32.ofInt i ∧ (decide (0 ≤ Int32.ofInt i) && decide (Int32.ofInt i ≤ 65535)) = true := by
  refine ⟨?_, ?_⟩
  · obtain ⟨n, rfl⟩ := Int.eq_ofNat_of_zero_le h0
    have := (pk_charN (q := n) (by omega)).1
    rw [Int32.ofInt_eq_ofNat]
    exact Value.int.inj this
  · rw [Bool.and_eq_true, decide_eq_true_iff, decide_eq_true_iff, Int32.le_iff_toInt_le, Int32.le_iff_toInt_le, Int32.toInt_ofInt_of_le (by omega) (by omega)]
    exact ⟨by show (0 : Int) ≤ i; omega, by show i ≤ (65535 : Int); omega⟩
theorem sx_fit_ok {ρ : Nat → Option Nat} {z : Nat → Nat} {σ : Nat → Int} {B : sx_Bs} (hB : sx_okB σ B) {ft : Nat} {v : sx_V} {x : Value} (h : sx_fit B ft v = true) (hv : sx_RV ρ z σ v x) {ty : FieldType} (ht : sx_code ty = ft) : narrow ty x = x ∧ fits ty x = true := by
  rcases v with n | e | r
  · obtain ⟨y, rfl, hy⟩ := hv
    unfold sx_fit at h
    have rg : ∀ {lo hi : Int}, (match sx_rn B n with | some r => sx_le lo r.1 && sx_le r.2 hi | none => false) = true → ∃ i : Int, lo ≤ i ∧ i ≤ hi ∧ y = Int32.ofInt i := by
      intro lo hi h
      split at h
      · rename_i r hr
        rw [Bool.and_eq_true, sx_le_iff, sx_le_iff] at h
        obtain ⟨i, a1, a2, a3⟩ := sx_rn_ok hB hr hy
        exact ⟨i, by omega, by omega, a3⟩
      · cases h
    cases ty with
    | int => exact ⟨rfl, rfl⟩
    | boolean =>
      subst ht
      obtain ⟨i, a1, a2, rfl⟩ := rg h
      exact ⟨congrArg Value.int (sx_nar1 a1 a2).1, (sx_nar1 a1 a2).2⟩
    | byte =>
      subst ht
      obtain ⟨i, a1, a2, rfl⟩ := rg h
      exact ⟨congrArg Value.int (sx_nar8 a1 a2).1, (sx_nar8 a1 a2).2⟩
    | char =>
      subst ht
      obtain ⟨i, a1, a2, rfl⟩ := rg h
      exact ⟨congrArg Value.int (sx_nar16 a1 a2).1, (sx_nar16 a1 a2).2⟩
    | _ => subst ht; cases h
  · obtain ⟨y, rfl, hy⟩ := hv
    have h := Nat.eq_of_beq_eq_true (show Nat.beq ft 4 = true from h)
    cases ty with
    | long => exact ⟨rfl, rfl⟩
    | _ => rw [h] at ht; cases ht
  · obtain ⟨o, rfl, hy⟩ := hv
    have h := Nat.eq_of_beq_eq_true (show Nat.beq ft 5 = true from h)
    cases ty with
    | object C => cases o <;> exact ⟨rfl, rfl⟩
    | array t => cases o <;> exact ⟨rfl, rfl⟩
    | _ => rw [h] at ht; cases ht
/-- lists of what is known of an array -/
def sx_put (u : List (Nat × sx_V)) (i : Nat) (v : sx_V) : List (Nat × sx_V) := match u with
  | [] => [(i, v)]
  | q :: t => bif Nat.beq q.1 i then (i, v) :: t else q :: sx_put t i v
theorem sx_lk_put (i : Nat) (v : sx_V) (j : Nat) : ∀ u, sx_lk (sx_put u i v) j = if j = i then some v else sx_lk u j
  | [] => by
    show (bif Nat.beq i j then some v else none) = if j = i then some v else none
    by_cases h : j = i
    · rw [if_pos h, h, show Nat.beq i i = true from Nat.beq_refl i]; rfl
    · rw [if_neg h]
      cases hb : Nat.beq i j with
      | true => exact absurd (Nat.eq_of_beq_eq_true hb).symm h
      | false => rfl
  | q :: t => by
    unfold sx_put
    cases hq : Nat.beq q.1 i with
    | true =>
      have e := Nat.eq_of_beq_eq_true hq
      show (bif Nat.beq i j then some v else sx_lk t j) = if j = i then some v else (bif Nat.beq q.1 j then some q.2 else sx_lk t j)
      by_cases h : j = i
      · rw [if_pos h, h, show Nat.beq i i = true from Nat.beq_refl i]; rfl
      · rw [if_neg h, e]
        cases hb : Nat.beq i j with
        | true => exact absurd (Nat.eq_of_beq_eq_true hb).symm h
        | false => rfl
    | false =>
      show (bif Nat.beq q.1 j then some q.2 else sx_lk (sx_put t i v) j) = if j = i then some v else (bif Nat.beq q.1 j then some q.2 else sx_lk t j)
      rw [sx_lk_put i v j t]
      by_cases h : j = i
      · rw [if_pos h, if_pos h, h]
        cases hb : Nat.beq q.1 i with
        | true => rw [hb] at hq; cases hq
        | false => rfl
      · rw [if_neg h, if_neg h]
/-- a place in a row of n, as it is known -/
def sx_ix (n : Nat) (i : sx_N) : Option Nat := match i with
  | .inl (.ofNat k, []) => bif Nat.blt k n && Nat.blt n 2147483648 then some k else none
  | _ => none
theorem sx_ix_ok {σ : Nat → Int} {n k : Nat} {i : sx_N} {x : Int32} (h : sx_ix n i = some k) (hx : sx_RN σ i x) : vp_in x n ∧ x.toNatClampNeg = k ∧ k < n := by
  unfold sx_ix at h
  split at h
  · rename_i k0
    cases h1 : (Nat.blt k0 n && Nat.blt n 2147483648) with
    | false => rw [h1] at h; cases h
    | true =>
      rw [h1] at h
      cases h
      rw [Bool.and_eq_true] at h1
      have a1 : k < n := Nat.le_of_ble_eq_true h1.1
      have a2 : n < 2147483648 := Nat.le_of_ble_eq_true h1.2
      have hx : x = Int32.ofInt (sx_ev σ (sx_c (Int.ofNat k))) := hx
      rw [sx_ev_c] at hx
      have e : x = nI k := hx.trans (Int32.ofInt_eq_ofNat (n := k))
      rw [e]
      exact ⟨vp_in_nI a1 (by omega), nI_clamp (by omega), a1⟩
  · cases h
