/-! tries, values, cells, and what they stand for: ρ the addresses of the ids, z of what stands outside, σ the unknowns -/
def sx_T (α : Type) : Nat → Type
  | 0 => Option α
  | n + 1 => sx_T α n × sx_T α n
def sx_emp {α : Type} : (n : Nat) → sx_T α n
  | 0 => (none : Option α)
  | n + 1 => (sx_emp n, sx_emp n)
def sx_look {α : Type} : (n : Nat) → sx_T α n → Nat → Option α
  | 0, t, i => bif Nat.beq i 0 then t else none
  | n + 1, t, i => bif Nat.beq (i % 2) 0 then sx_look n t.1 (i / 2) else sx_look n t.2 (i / 2)
def sx_upd {α : Type} (v : α) : (n : Nat) → sx_T α n → Nat → sx_T α n
  | 0, t, i => bif Nat.beq i 0 then (some v : Option α) else t
  | n + 1, t, i => bif Nat.beq (i % 2) 0 then (sx_upd v n t.1 (i / 2), t.2) else (t.1, sx_upd v n t.2 (i / 2))
theorem sx_look_emp {α : Type} : ∀ (n i : Nat), sx_look n (sx_emp n : sx_T α n) i = none
  | 0, i => by show (bif Nat.beq i 0 then none else none) = none; cases Nat.beq i 0 <;> rfl
  | n + 1, i => by
    unfold sx_look
    cases Nat.beq (i % 2) 0
    · exact sx_look_emp n (i / 2)
    · exact sx_look_emp n (i / 2)
theorem sx_look_upd {α : Type} {v : α} : ∀ (n : Nat) {t : sx_T α n} {i j : Nat} {c : α}, sx_look n (sx_upd v n t i) j = some c → (j = i ∧ c = v) ∨ (j ≠ i ∧ sx_look n t j = some c)
  | 0, t, i, j, c, h => by
    unfold sx_look sx_upd at h
    cases hj : Nat.beq j 0 with
    | false => rw [hj] at h; cases h
    | true =>
      rw [hj] at h
      have ej := Nat.eq_of_beq_eq_true hj
      cases hi : Nat.beq i 0 with
      | true =>
        rw [hi] at h
        have ei := Nat.eq_of_beq_eq_true hi
        exact Or.inl ⟨by rw [ej, ei], (Option.some.inj h).symm⟩
      | false =>
        rw [hi] at h
        refine Or.inr ⟨fun e => ?_, ?_⟩
        · rw [← e, hj] at hi; cases hi
        · unfold sx_look; rw [hj]; exact h
  | n + 1, t, i, j, c, h => by
    unfold sx_look sx_upd at h
    unfold sx_look
    cases hi : Nat.beq (i % 2) 0 with
    | true =>
      rw [hi] at h
      have ei := Nat.eq_of_beq_eq_true hi
      cases hj : Nat.beq (j % 2) 0 with
      | true =>
        rw [hj] at h
        have ej := Nat.eq_of_beq_eq_true hj
        rcases sx_look_upd n h with ⟨q1, q2⟩ | ⟨q1, q2⟩
        · exact Or.inl ⟨by omega, q2⟩
        · exact Or.inr ⟨fun e => q1 (by rw [e]), q2⟩
      | false =>
        rw [hj] at h
        exact Or.inr ⟨fun e => (by rw [e, hi] at hj; cases hj), h⟩
    | false =>
      rw [hi] at h
      have ni : ¬ i % 2 = 0 := fun e => by rw [e] at hi; cases hi
      cases hj : Nat.beq (j % 2) 0 with
      | true =>
        rw [hj] at h
        exact Or.inr ⟨fun e => (by rw [e, hi] at hj; cases hj), h⟩
      | false =>
        rw [hj] at h
        have nj : ¬ j % 2 = 0 := fun e => by rw [e] at hj; cases hj
        rcases sx_look_upd n h with ⟨q1, q2⟩ | ⟨q1, q2⟩
        · exact Or.inl ⟨by omega, q2⟩
        · exact Or.inr ⟨fun e => q1 (by rw [e]), q2⟩
def sx_lk {α : Type} : List (Nat × α) → Nat → Option α
  | [], _ => none
  | q :: t, i => bif Nat.beq q.1 i then some q.2 else sx_lk t i
abbrev sx_F : Type := Option (Nat ⊕ Nat)
abbrev sx_V : Type := sx_N ⊕ (sx_I ⊕ sx_F)
/-- an object: its class's number, its fields (none: anything); an array: its type's number, its length, whether the rest is zero, what is known of it -/
abbrev sx_C : Type := (Nat × List (Option sx_V)) ⊕ (Nat × Nat × Bool × List (Nat × sx_V))
abbrev sx_W : Type := sx_T sx_C 12
abbrev sx_int (n : Int) : sx_V := .inl (.inl (sx_c n))
abbrev sx_nul : sx_V := .inr (.inr none)
abbrev sx_id (i : Nat) : sx_V := .inr (.inr (some (.inl i)))
abbrev sx_ext (k : Nat) : sx_V := .inr (.inr (some (.inr k)))
section SXV
variable (ρ : Nat → Option Nat) (z : Nat → Nat) (σ : Nat → Int)
/-- a number as an address or none -/
def sx_mb (n : Nat) : Option Nat := match n with
  | 0 => none
  | a + 1 => some a
/-- of what stands outside 3 is anything, those from 2000 on may be null -/
def sx_RF (r : sx_F) (o : Option Nat) : Prop := match r with
  | none => o = none
  | some (.inl i) => ∃ a, ρ i = some a ∧ o = some a
  | some (.inr k) => (k ≠ 3 → k < 2000 → o = some (z k)) ∧ (2000 ≤ k → o = sx_mb (z k))
def sx_RV (v : sx_V) (x : Value) : Prop := match v with
  | .inl n => ∃ y, x = .int y ∧ sx_RN σ n y
  | .inr (.inl e) => ∃ y, x = .long y ∧ sx_RL σ e y
  | .inr (.inr r) => ∃ o, x = va_rf o ∧ sx_RF ρ z r o
def sx_RFs : List (Option sx_V) → List Value → Prop
  | [], [] => True
  | f :: fs, x :: xs => (match f with | none => True | some v => sx_RV ρ z σ v x) ∧ sx_RFs fs xs
  | _, _ => False
def sx_RS : List sx_V → List Value → Prop
  | [], [] => True
  | v :: vs, x :: xs => sx_RV ρ z σ v x ∧ sx_RS vs xs
  | _, _ => False
def sx_RLs : List (Nat × sx_V) → List (Nat × Value) → Prop
  | [], [] => True
  | v :: vs, x :: xs => v.1 = x.1 ∧ sx_RV ρ z σ v.2 x.2 ∧ sx_RLs vs xs
  | _, _ => False
def sx_RA (u : List (Nat × sx_V)) (zr : Bool) (d : Value) (g : Nat → Value) : Prop := ∀ k, match sx_lk u k with
  | some v => sx_RV ρ z σ v (g k)
  | none => zr = true → g k = d
def sx_RX (t n : Nat) (zr : Bool) (u : List (Nat × sx_V)) (x : vp_A) : Prop := x.1 = n ∧ match x.2 with
  | .inl f => t < 4 ∧ sx_RA ρ z σ u zr (.int 0) (fun k => .int (f k))
  | .inr (.inl f) => t = 4 ∧ sx_RA ρ z σ u zr (.long 0) (fun k => .long (f k))
  | .inr (.inr (.inr (.inr f))) => 5 ≤ t ∧ sx_RA ρ z σ u zr .null (fun k => va_rf (f k))
  | _ => False
def sx_RC (cA : Nat → ClassId) (c : sx_C) (e : va_E) : Prop := match c with
  | .inl o => ∃ xs, e = .inr (o.1, xs) ∧ sx_RFs ρ z σ o.2 xs
  | .inr a => ∃ x : vp_A, e = .inl (cA a.1, x) ∧ sx_RX ρ z σ a.1 a.2.1 a.2.2.1 a.2.2.2 x
def sx_Rep (cA : Nat → ClassId) (w : sx_W) (wl : va_W) : Prop := ∀ i c, sx_look 12 w i = some c → ∃ (k : Nat) (a : Nat) (e : va_E), wl[k]? = some (a, e) ∧ ρ i = some a ∧ sx_RC ρ z σ cA c e
end SXV
/-- more addresses are known -/
def sx_ge (ρ ρ' : Nat → Option Nat) : Prop := ∀ i a, ρ i = some a → ρ' i = some a
theorem sx_ge_rf (ρ : Nat → Option Nat) : sx_ge ρ ρ := fun _ _ h => h
theorem sx_ge.tr {ρ ρ1 ρ2 : Nat → Option Nat} (h1 : sx_ge ρ ρ1) (h2 : sx_ge ρ1 ρ2) : sx_ge ρ ρ2 := fun i a h => h2 i a (h1 i a h)
section SXM
variable {ρ ρ' : Nat → Option Nat} {z : Nat → Nat} {σ : Nat → Int}
theorem sx_RF.mono (hg : sx_ge ρ ρ') {r : sx_F} {o : Option Nat} (h : sx_RF ρ z r o) : sx_RF ρ' z r o := by
  match r, h with
  | none, h => exact h
  | some (.inl i), ⟨a, h1, h2⟩ => exact ⟨a, hg i a h1, h2⟩
  | some (.inr k), h => exact h
theorem sx_RV.mono (hg : sx_ge ρ ρ') {v : sx_V} {x : Value} (h : sx_RV ρ z σ v x) : sx_RV ρ' z σ v x := by
  match v, h with
  | .inl n, h => exact h
  | .inr (.inl e), h => exact h
  | .inr (.inr r), ⟨o, h1, h2⟩ => exact ⟨o, h1, h2.mono hg⟩
theorem sx_RFs.mono (hg : sx_ge ρ ρ') : ∀ {fs : List (Option sx_V)} {xs : List Value}, sx_RFs ρ z σ fs xs → sx_RFs ρ' z σ fs xs
  | [], [], _ => trivial
  | none :: _, _ :: _, h => ⟨trivial, sx_RFs.mono hg h.2⟩
  | some _ :: _, _ :: _, h => ⟨sx_RV.mono hg h.1, sx_RFs.mono hg h.2⟩
  | [], _ :: _, h => h.elim
  | _ :: _, [], h => h.elim
theorem sx_RS.mono (hg : sx_ge ρ ρ') : ∀ {fs : List sx_V} {xs : List Value}, sx_RS ρ z σ fs xs → sx_RS ρ' z σ fs xs
  | [], [], _ => trivial
  | _ :: _, _ :: _, h => ⟨sx_RV.mono hg h.1, sx_RS.mono hg h.2⟩
  | [], _ :: _, h => h.elim
  | _ :: _, [], h => h.elim
theorem sx_RLs.mono (hg : sx_ge ρ ρ') : ∀ {fs : List (Nat × sx_V)} {xs : List (Nat × Value)}, sx_RLs ρ z σ fs xs → sx_RLs ρ' z σ fs xs
  | [], [], _ => trivial
  | _ :: _, _ :: _, h => ⟨h.1, sx_RV.mono hg h.2.1, sx_RLs.mono hg h.2.2⟩
  | [], _ :: _, h => h.elim
  | _ :: _, [], h => h.elim
theorem sx_RA.mono (hg : sx_ge ρ ρ') {u : List (Nat × sx_V)} {zr : Bool} {d : Value} {g : Nat → Value} (h : sx_RA ρ z σ u zr d g) : sx_RA ρ' z σ u zr d g := by
  intro k
  have h := h k
  cases hk : sx_lk u k with
  | none => rw [hk] at h; exact h
  | some v => rw [hk] at h; exact sx_RV.mono hg h
theorem sx_RX.mono (hg : sx_ge ρ ρ') {t n : Nat} {zr : Bool} {u : List (Nat × sx_V)} {x : vp_A} (h : sx_RX ρ z σ t n zr u x) : sx_RX ρ' z σ t n zr u x := by
  obtain ⟨h0, h⟩ := h
  refine ⟨h0, ?_⟩
  match hx : x.2, h with
  | .inl f, h => exact ⟨h.1, h.2.mono hg⟩
  | .inr (.inl f), h => exact ⟨h.1, h.2.mono hg⟩
  | .inr (.inr (.inl f)), h => exact h.elim
  | .inr (.inr (.inr (.inl f))), h => exact h.elim
  | .inr (.inr (.inr (.inr f))), h => exact ⟨h.1, h.2.mono hg⟩
theorem sx_RC.mono (hg : sx_ge ρ ρ') {cA : Nat → ClassId} {c : sx_C} {e : va_E} (h : sx_RC ρ z σ cA c e) : sx_RC ρ' z σ cA c e := by
  match c, h with
  | .inl o, ⟨xs, h1, h2⟩ => exact ⟨xs, h1, h2.mono hg⟩
  | .inr a, ⟨x, h1, h2⟩ => exact ⟨x, h1, h2.mono hg⟩
theorem sx_RFs.at : ∀ {fs : List (Option sx_V)} {xs : List Value} {k : Nat} {v : sx_V}, sx_RFs ρ z σ fs xs → fs[k]? = some (some v) → ∃ x, xs[k]? = some x ∧ sx_RV ρ z σ v x
  | [], [], k, v, _, hk => by cases hk
  | f :: fs, x :: xs, 0, v, h, hk => by
    cases hk
    exact ⟨x, rfl, h.1⟩
  | f :: fs, x :: xs, k + 1, v, h, hk => sx_RFs.at (fs := fs) (xs := xs) (k := k) h.2 hk
  | [], _ :: _, _, _, h, _ => h.elim
  | _ :: _, [], _, _, h, _ => h.elim
theorem sx_RFs.len : ∀ {fs : List (Option sx_V)} {xs : List Value}, sx_RFs ρ z σ fs xs → xs.length = fs.length
  | [], [], _ => rfl
  | f :: fs, x :: xs, h => by show xs.length + 1 = fs.length + 1; rw [sx_RFs.len h.2]
  | [], _ :: _, h => h.elim
  | _ :: _, [], h => h.elim
theorem sx_RFs.put : ∀ {fs : List (Option sx_V)} {xs : List Value} {k : Nat} {v : sx_V} {x : Value}, sx_RFs ρ z σ fs xs → sx_RV ρ z σ v x → sx_RFs ρ z σ (fs.set k (some v)) (xs.set k x)
  | [], [], _, _, _, _, _ => trivial
  | f :: fs, y :: xs, 0, v, x, h, hv => ⟨hv, h.2⟩
  | f :: fs, y :: xs, k + 1, v, x, h, hv => ⟨h.1, sx_RFs.put (k := k) h.2 hv⟩
  | [], _ :: _, _, _, _, h, _ => h.elim
  | _ :: _, [], _, _, _, h, _ => h.elim
theorem sx_RLs.at : ∀ {L : List (Nat × sx_V)} {lv : List (Nat × Value)} {i : Nat} {v : sx_V}, sx_RLs ρ z σ L lv → sx_lk L i = some v → ∃ (k : Nat) (x : Value), lv[k]? = some (i, x) ∧ sx_RV ρ z σ v x
  | [], [], _, _, _, h => nomatch h
  | q :: L, y :: lv, i, v, h, hk => by
    unfold sx_lk at hk
    cases hq : Nat.beq q.1 i with
    | true =>
      rw [hq] at hk
      cases hk
      have e := Nat.eq_of_beq_eq_true hq
      exact ⟨0, y.2, by rw [← e, h.1]; rfl, h.2.1⟩
    | false =>
      rw [hq] at hk
      obtain ⟨k, x, h1, h2⟩ := sx_RLs.at h.2.2 hk
      exact ⟨k + 1, x, h1, h2⟩
  | [], _ :: _, _, _, h, _ => h.elim
  | _ :: _, [], _, _, h, _ => h.elim
def sx_isL : sx_V → Bool
  | .inr (.inl _) => true
  | _ => false
theorem sx_cat {v : sx_V} {x : Value} (h : sx_RV ρ z σ v x) : (x.category == 2) = sx_isL v := by
  match v, h with
  | .inl n, ⟨y, e, _⟩ => rw [e]; rfl
  | .inr (.inl e), ⟨y, e1, _⟩ => rw [e1]; rfl
  | .inr (.inr r), ⟨o, e, _⟩ => rw [e]; cases o <;> rfl
theorem sx_cat1 {v : sx_V} {x : Value} (h : sx_RV ρ z σ v x) (hl : sx_isL v = false) : x.category = 1 := by
  have := sx_cat h
  rw [hl] at this
  rcases lv_cat x with q | q
  · exact q
  · rw [q] at this; cases this
theorem sx_cat2 {v : sx_V} {x : Value} (h : sx_RV ρ z σ v x) (hl : sx_isL v = true) : x.category = 2 := by
  have := sx_cat h
  rw [hl] at this
  exact eq_of_beq this
theorem sx_RLs.filter {p : Nat × sx_V → Bool} {p' : Nat × Value → Bool} (hp : ∀ (v : Nat × sx_V) (x : Nat × Value), v.1 = x.1 → sx_RV ρ z σ v.2 x.2 → p v = p' x) : ∀ {L : List (Nat × sx_V)} {lv : List (Nat × Value)}, sx_RLs ρ z σ L lv → sx_RLs ρ z σ (L.filter p) (lv.filter p')
  | [], [], _ => trivial
  | v :: L, x :: lv, h => by
    have e := hp v x h.1 h.2.1
    rw [List.filter_cons, List.filter_cons, ← e]
    cases p v with
    | true => exact ⟨h.1, h.2.1, sx_RLs.filter hp h.2.2⟩
    | false => exact sx_RLs.filter hp h.2.2
  | [], _ :: _, h => h.elim
  | _ :: _, [], h => h.elim
def sx_st1 (L : List (Nat × sx_V)) (i : Nat) (v : sx_V) : List (Nat × sx_V) := (i, v) :: L.filter (fun q => !(q.1 == i) && !(q.1 + 1 == i && sx_isL q.2))
def sx_st2 (L : List (Nat × sx_V)) (i : Nat) (v : sx_V) : List (Nat × sx_V) := (i, v) :: L.filter (fun q => !(q.1 == i) && (!(q.1 == i + 1) && !(q.1 + 1 == i && sx_isL q.2)))
theorem sx_RLs.st1 {L : List (Nat × sx_V)} {lv : List (Nat × Value)} {i : Nat} {v : sx_V} {x : Value} (h : sx_RLs ρ z σ L lv) (hv : sx_RV ρ z σ v x) : sx_RLs ρ z σ (sx_st1 L i v) ((i, x) :: lv.filter (fun q => !(q.1 == i) && !(q.1 + 1 == i && q.2.category == 2))) :=
  ⟨rfl, hv, sx_RLs.filter (fun a b e1 e2 => by rw [e1, sx_cat e2]) h⟩
theorem sx_RLs.st2 {L : List (Nat × sx_V)} {lv : List (Nat × Value)} {i : Nat} {v : sx_V} {x : Value} (h : sx_RLs ρ z σ L lv) (hv : sx_RV ρ z σ v x) : sx_RLs ρ z σ (sx_st2 L i v) ((i, x) :: lv.filter (fun q => !(q.1 == i) && (!(q.1 == i + 1) && !(q.1 + 1 == i && q.2.category == 2)))) :=
  ⟨rfl, hv, sx_RLs.filter (fun a b e1 e2 => by rw [e1, sx_cat e2]) h⟩
theorem sx_RS.nil {xs : List Value} (h : sx_RS ρ z σ [] xs) : xs = [] := by
  cases xs with
  | nil => rfl
  | cons => exact h.elim
theorem sx_RS.cons {v : sx_V} {S : List sx_V} {xs : List Value} (h : sx_RS ρ z σ (v :: S) xs) : ∃ x ys, xs = x :: ys ∧ sx_RV ρ z σ v x ∧ sx_RS ρ z σ S ys := by
  cases xs with
  | nil => exact h.elim
  | cons x ys => exact ⟨x, ys, rfl, h.1, h.2⟩
theorem sx_RS.int {n : sx_N} {S : List sx_V} {xs : List Value} (h : sx_RS ρ z σ (.inl n :: S) xs) : ∃ y ys, xs = .int y :: ys ∧ sx_RN σ n y ∧ sx_RS ρ z σ S ys := by
  obtain ⟨x, ys, rfl, ⟨y, rfl, h2⟩, h3⟩ := h.cons
  exact ⟨y, ys, rfl, h2, h3⟩
theorem sx_RS.long {e : sx_I} {S : List sx_V} {xs : List Value} (h : sx_RS ρ z σ (.inr (.inl e) :: S) xs) : ∃ y ys, xs = .long y :: ys ∧ sx_RL σ e y ∧ sx_RS ρ z σ S ys := by
  obtain ⟨x, ys, rfl, ⟨y, rfl, h2⟩, h3⟩ := h.cons
  exact ⟨y, ys, rfl, h2, h3⟩
theorem sx_RS.ref {r : sx_F} {S : List sx_V} {xs : List Value} (h : sx_RS ρ z σ (.inr (.inr r) :: S) xs) : ∃ o ys, xs = va_rf o :: ys ∧ sx_RF ρ z r o ∧ sx_RS ρ z σ S ys := by
  obtain ⟨x, ys, rfl, ⟨y, rfl, h2⟩, h3⟩ := h.cons
  exact ⟨y, ys, rfl, h2, h3⟩
theorem sx_RVi {n : sx_N} {y : Int32} (h : sx_RN σ n y) : sx_RV ρ z σ (.inl n) (.int y) := ⟨y, rfl, h⟩
theorem sx_RVl {e : sx_I} {y : Int64} (h : sx_RL σ e y) : sx_RV ρ z σ (.inr (.inl e)) (.long y) := ⟨y, rfl, h⟩
theorem sx_RVr {r : sx_F} {o : Option Nat} (h : sx_RF ρ z r o) : sx_RV ρ z σ (.inr (.inr r)) (va_rf o) := ⟨o, rfl, h⟩
theorem sx_RNc (n : Int) : sx_RN σ (.inl (sx_c n)) (Int32.ofInt n) := by show _ = Int32.ofInt _; rw [sx_ev_c]
theorem sx_RLc (n : Int) : sx_RL σ (sx_c n) (Int64.ofInt n) := by show _ = Int64.ofInt _; rw [sx_ev_c]
end SXM
