/-! a quicker reader of the code, in small worlds: looking, putting -/
noncomputable def fx_lk {α : Type} (u : List (Nat × α)) (i : Nat) : Option α := List.rec (motive := fun _ => Option α) none (fun q _ ih => Bool.rec (motive := fun _ => Option α) ih (some q.2) (Nat.beq q.1 i)) u
theorem fx_lk_eq {α : Type} (i : Nat) : ∀ (u : List (Nat × α)), fx_lk u i = sx_lk u i
  | [] => rfl
  | q :: t => by
    show Bool.rec (motive := fun _ => Option α) (fx_lk t i) (some q.2) (Nat.beq q.1 i) = (bif Nat.beq q.1 i then some q.2 else sx_lk t i)
    rw [fx_lk_eq i t]
    cases Nat.beq q.1 i <;> rfl
noncomputable def fx_look {α : Type} (n : Nat) : sx_T α n → Nat → Option α := Nat.rec (motive := fun n => sx_T α n → Nat → Option α) (fun t i => Bool.rec (motive := fun _ => Option α) none t (Nat.beq i 0)) (fun n ih t i => Bool.rec (motive := fun _ => Option α) (ih (show sx_T α n × sx_T α n from t).2 (Nat.div i 2)) (ih (show sx_T α n × sx_T α n from t).1 (Nat.div i 2)) (Nat.beq (Nat.mod i 2) 0)) n
theorem fx_look_eq {α : Type} : ∀ (n : Nat) (t : sx_T α n) (i : Nat), fx_look n t i = sx_look n t i
  | 0, t, i => by
    show Bool.rec (motive := fun _ => Option α) none t (Nat.beq i 0) = (bif Nat.beq i 0 then t else none)
    cases Nat.beq i 0 <;> rfl
  | n + 1, t, i => by
    show Bool.rec (motive := fun _ => Option α) (fx_look n (show sx_T α n × sx_T α n from t).2 (i / 2)) (fx_look n (show sx_T α n × sx_T α n from t).1 (i / 2)) (Nat.beq (i % 2) 0) = (bif Nat.beq (i % 2) 0 then sx_look n (show sx_T α n × sx_T α n from t).1 (i / 2) else sx_look n (show sx_T α n × sx_T α n from t).2 (i / 2))
    rw [fx_look_eq n, fx_look_eq n]
    cases Nat.beq (i % 2) 0 <;> rfl
noncomputable def fx_upd {α : Type} (v : α) (n : Nat) : sx_T α n → Nat → sx_T α n := Nat.rec (motive := fun n => sx_T α n → Nat → sx_T α n) (fun t i => Bool.rec (motive := fun _ => Option α) t (some v) (Nat.beq i 0)) (fun n ih t i => Bool.rec (motive := fun _ => sx_T α n × sx_T α n) ((show sx_T α n × sx_T α n from t).1, ih (show sx_T α n × sx_T α n from t).2 (Nat.div i 2)) (ih (show sx_T α n × sx_T α n from t).1 (Nat.div i 2), (show sx_T α n × sx_T α n from t).2) (Nat.beq (Nat.mod i 2) 0)) n
theorem fx_upd_eq {α : Type} (v : α) : ∀ (n : Nat) (t : sx_T α n) (i : Nat), fx_upd v n t i = sx_upd v n t i
  | 0, t, i => by
    show Bool.rec (motive := fun _ => Option α) t (some v) (Nat.beq i 0) = (bif Nat.beq i 0 then (some v : Option α) else t)
    cases Nat.beq i 0 <;> rfl
  | n + 1, t, i => by
    show Bool.rec (motive := fun _ => sx_T α n × sx_T α n) ((show sx_T α n × sx_T α n from t).1, fx_upd v n (show sx_T α n × sx_T α n from t).2 (i / 2)) (fx_upd v n (show sx_T α n × sx_T α n from t).1 (i / 2), (show sx_T α n × sx_T α n from t).2) (Nat.beq (i % 2) 0) = (bif Nat.beq (i % 2) 0 then ((sx_upd v n (show sx_T α n × sx_T α n from t).1 (i / 2), (show sx_T α n × sx_T α n from t).2) : sx_T α n × sx_T α n) else (((show sx_T α n × sx_T α n from t).1, sx_upd v n (show sx_T α n × sx_T α n from t).2 (i / 2)) : sx_T α n × sx_T α n))
    rw [fx_upd_eq v n, fx_upd_eq v n]
    cases Nat.beq (i % 2) 0 <;> rfl
theorem sx_look_lt {α : Type} : ∀ (n : Nat) {t : sx_T α n} {i : Nat} {c : α}, sx_look n t i = some c → i < 2 ^ n
  | 0, t, i, c, h => by
    unfold sx_look at h
    cases hi : Nat.beq i 0 with
    | false => rw [hi] at h; cases h
    | true => have := Nat.eq_of_beq_eq_true hi; omega
  | n + 1, t, i, c, h => by
    unfold sx_look at h
    have e : 2 ^ (n + 1) = 2 * 2 ^ n := by rw [Nat.pow_succ]; omega
    cases hi : Nat.beq (i % 2) 0 with
    | true => rw [hi] at h; have := sx_look_lt n h; omega
    | false => rw [hi] at h; have := sx_look_lt n h; omega
theorem sx_look_updS {α : Type} {v : α} : ∀ (n : Nat) {t : sx_T α n} {i : Nat}, i < 2 ^ n → sx_look n (sx_upd v n t i) i = some v
  | 0, t, i, h => by
    have e : i = 0 := by omega
    subst e
    rfl
  | n + 1, t, i, h => by
    have e : 2 ^ (n + 1) = 2 * 2 ^ n := by rw [Nat.pow_succ]; omega
    unfold sx_look sx_upd
    cases hi : Nat.beq (i % 2) 0 with
    | true => exact sx_look_updS n (by omega)
    | false => exact sx_look_updS n (by omega)
theorem sx_look_updN {α : Type} {v : α} : ∀ (n : Nat) {t : sx_T α n} {i j : Nat}, j ≠ i → sx_look n (sx_upd v n t i) j = sx_look n t j
  | 0, t, i, j, h => by
    unfold sx_look sx_upd
    cases hj : Nat.beq j 0 with
    | false => rfl
    | true =>
      cases hi : Nat.beq i 0 with
      | false => rfl
      | true => exact absurd ((Nat.eq_of_beq_eq_true hj).trans (Nat.eq_of_beq_eq_true hi).symm) h
  | n + 1, t, i, j, h => by
    unfold sx_look sx_upd
    cases hi : Nat.beq (i % 2) 0 with
    | true =>
      have ei := Nat.eq_of_beq_eq_true hi
      cases hj : Nat.beq (j % 2) 0 with
      | true => have ej := Nat.eq_of_beq_eq_true hj; exact sx_look_updN n (by omega)
      | false => rfl
    | false =>
      have ni : ¬ i % 2 = 0 := fun e => by rw [e] at hi; cases hi
      cases hj : Nat.beq (j % 2) 0 with
      | true => rfl
      | false => have nj : ¬ j % 2 = 0 := fun e => (by rw [e] at hj; cases hj); exact sx_look_updN n (by omega)
noncomputable def fx_nth {α : Type} (l : List α) (n : Nat) : Option α := Nat.rec (motive := fun _ => List α → Option α) (fun l => List.rec (motive := fun _ => Option α) none (fun a _ _ => some a) l) (fun _ ih l => List.rec (motive := fun _ => Option α) none (fun _ t _ => ih t) l) n l
theorem fx_nth_eq {α : Type} : ∀ (l : List α) (n : Nat), fx_nth l n = l[n]?
  | [], 0 => rfl
  | [], n + 1 => by
    show none = ([] : List α)[n + 1]?
    simp
  | a :: t, 0 => rfl
  | a :: t, n + 1 => by
    show fx_nth t n = (a :: t)[n + 1]?
    rw [fx_nth_eq t n, List.getElem?_cons_succ]
noncomputable def fx_set {α : Type} (v : α) (l : List α) (n : Nat) : List α := Nat.rec (motive := fun _ => List α → List α) (fun l => List.rec (motive := fun _ => List α) [] (fun _ t _ => v :: t) l) (fun _ ih l => List.rec (motive := fun _ => List α) [] (fun a t _ => a :: ih t) l) n l
theorem fx_set_eq {α : Type} (v : α) : ∀ (l : List α) (n : Nat), fx_set v l n = l.set n v
  | [], 0 => rfl
  | [], n + 1 => rfl
  | a :: t, 0 => rfl
  | a :: t, n + 1 => by
    show a :: fx_set v t n = (a :: t).set (n + 1) v
    rw [fx_set_eq v t n, List.set_cons_succ]
theorem fx_beq (a b : Nat) : (a == b) = Nat.beq a b := by
  rw [Bool.eq_iff_iff, beq_iff_eq, Nat.beq_eq]
noncomputable def fx_f1 (i : Nat) (L : List (Nat × sx_V)) : List (Nat × sx_V) := List.rec (motive := fun _ => List (Nat × sx_V)) [] (fun q _ ih => Bool.rec (motive := fun _ => List (Nat × sx_V)) (Bool.rec (motive := fun _ => List (Nat × sx_V)) (q :: ih) (bif sx_isL q.2 then ih else q :: ih) (Nat.beq (Nat.succ q.1) i)) ih (Nat.beq q.1 i)) L
noncomputable def fx_f2 (i : Nat) (L : List (Nat × sx_V)) : List (Nat × sx_V) := List.rec (motive := fun _ => List (Nat × sx_V)) [] (fun q _ ih => bif Nat.beq q.1 i || (Nat.beq q.1 (i + 1) || (Nat.beq (q.1 + 1) i && sx_isL q.2)) then ih else q :: ih) L
theorem fx_f1_eq (i : Nat) : ∀ (L : List (Nat × sx_V)), fx_f1 i L = L.filter (fun q => !(q.1 == i) && !(q.1 + 1 == i && sx_isL q.2))
  | [] => rfl
  | q :: t => by
    rw [List.filter_cons]
    show Bool.rec (motive := fun _ => List (Nat × sx_V)) (Bool.rec (motive := fun _ => List (Nat × sx_V)) (q :: fx_f1 i t) (bif sx_isL q.2 then fx_f1 i t else q :: fx_f1 i t) (Nat.beq (q.1 + 1) i)) (fx_f1 i t) (Nat.beq q.1 i) = _
    rw [fx_f1_eq i t, ← fx_beq, ← fx_beq]
    cases (q.1 == i) <;> cases (q.1 + 1 == i) <;> cases (sx_isL q.2) <;> rfl
theorem fx_f2_eq (i : Nat) : ∀ (L : List (Nat × sx_V)), fx_f2 i L = L.filter (fun q => !(q.1 == i) && (!(q.1 == i + 1) && !(q.1 + 1 == i && sx_isL q.2)))
  | [] => rfl
  | q :: t => by
    rw [List.filter_cons]
    show (bif Nat.beq q.1 i || (Nat.beq q.1 (i + 1) || (Nat.beq (q.1 + 1) i && sx_isL q.2)) then fx_f2 i t else q :: fx_f2 i t) = _
    rw [fx_f2_eq i t, ← fx_beq, ← fx_beq, ← fx_beq]
    cases (q.1 == i) <;> cases (q.1 == i + 1) <;> cases (q.1 + 1 == i && sx_isL q.2) <;> rfl
noncomputable def fx_put (i : Nat) (v : sx_V) (u : List (Nat × sx_V)) : List (Nat × sx_V) := List.rec (motive := fun _ => List (Nat × sx_V)) [(i, v)] (fun q t ih => Bool.rec (motive := fun _ => List (Nat × sx_V)) (q :: ih) ((i, v) :: t) (Nat.beq q.1 i)) u
theorem fx_put_eq (i : Nat) (v : sx_V) : ∀ (u : List (Nat × sx_V)), fx_put i v u = sx_put u i v
  | [] => rfl
  | q :: t => by
    show Bool.rec (motive := fun _ => List (Nat × sx_V)) (q :: fx_put i v t) ((i, v) :: t) (Nat.beq q.1 i) = (bif Nat.beq q.1 i then (i, v) :: t else q :: sx_put t i v)
    rw [fx_put_eq i v t]
    cases Nat.beq q.1 i <;> rfl
noncomputable def fx_ent (vs : List sx_V) : Nat → List (Nat × sx_V) := List.rec (motive := fun _ => Nat → List (Nat × sx_V)) (fun _ => []) (fun v _ ih i => (i, v) :: ih (bif sx_isL v then i + 2 else i + 1)) vs
theorem fx_ent_eq : ∀ (vs : List sx_V) (i : Nat), fx_ent vs i = sx_ent i vs
  | [], _ => rfl
  | v :: vs, i => by
    show (i, v) :: fx_ent vs (bif sx_isL v then i + 2 else i + 1) = (i, v) :: sx_ent (bif sx_isL v then i + 2 else i + 1) vs
    rw [fx_ent_eq vs]
noncomputable def fx_sl (vs : List sx_V) : Nat := List.rec (motive := fun _ => Nat) 0 (fun v _ ih => (bif sx_isL v then 2 else 1) + ih) vs
theorem fx_sl_eq : ∀ (vs : List sx_V), fx_sl vs = sx_sl vs
  | [] => rfl
  | v :: vs => by
    show (bif sx_isL v then 2 else 1) + fx_sl vs = (bif sx_isL v then 2 else 1) + sx_sl vs
    rw [fx_sl_eq vs]
/-- the n uppermost, in order, and what is below -/
noncomputable def fx_pop (n : Nat) : List sx_V → List sx_V → Option (List sx_V × List sx_V) := Nat.rec (motive := fun _ => List sx_V → List sx_V → Option (List sx_V × List sx_V)) (fun S a => some (a, S)) (fun _ ih S a => match S with
  | [] => none
  | v :: S => ih S (v :: a)) n
theorem fx_pop_ok : ∀ (n : Nat) (S a : List sx_V) (q : List sx_V × List sx_V), fx_pop n S a = some q → n ≤ S.length ∧ q.1 = (S.take n).reverse ++ a ∧ q.2 = S.drop n
  | 0, S, a, q, h => by
    have h : some (a, S) = some q := h
    cases h
    exact ⟨Nat.zero_le _, rfl, rfl⟩
  | n + 1, [], a, q, h => by
    have h : (none : Option (List sx_V × List sx_V)) = some q := h
    cases h
  | n + 1, v :: S, a, q, h => by
    have h : fx_pop n S (v :: a) = some q := h
    obtain ⟨h1, h2, h3⟩ := fx_pop_ok n S (v :: a) q h
    refine ⟨Nat.succ_le_succ h1, ?_, ?_⟩
    · rw [h2, List.take_succ_cons, List.reverse_cons, List.append_assoc]
      rfl
    · rw [h3, List.drop_succ_cons]
