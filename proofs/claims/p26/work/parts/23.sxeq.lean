/-! equality of what is told of a state -/
def sx_eqL : List (Nat × Int) → List (Nat × Int) → Bool
  | [], [] => true
  | p :: a, q :: b => Nat.beq p.1 q.1 && sx_eq p.2 q.2 && sx_eqL a b
  | _, _ => false
def sx_eqI (a b : sx_I) : Bool := sx_eq a.1 b.1 && sx_eqL a.2 b.2
def sx_eqN (a b : sx_N) : Bool := match a, b with
  | .inl a, .inl b => sx_eqI a b
  | .inr a, .inr b => sx_eq a.1 b.1 && sx_eq a.2 b.2
  | _, _ => false
def sx_eqF (a b : sx_F) : Bool := match a, b with
  | none, none => true
  | some (.inl a), some (.inl b) => Nat.beq a b
  | some (.inr a), some (.inr b) => Nat.beq a b
  | _, _ => false
def sx_eqV (a b : sx_V) : Bool := match a, b with
  | .inl a, .inl b => sx_eqN a b
  | .inr (.inl a), .inr (.inl b) => sx_eqI a b
  | .inr (.inr a), .inr (.inr b) => sx_eqF a b
  | _, _ => false
def sx_eqS : List sx_V → List sx_V → Bool
  | [], [] => true
  | p :: a, q :: b => sx_eqV p q && sx_eqS a b
  | _, _ => false
def sx_eqO : List (Option sx_V) → List (Option sx_V) → Bool
  | [], [] => true
  | none :: a, none :: b => sx_eqO a b
  | some p :: a, some q :: b => sx_eqV p q && sx_eqO a b
  | _, _ => false
def sx_eqU : List (Nat × sx_V) → List (Nat × sx_V) → Bool
  | [], [] => true
  | p :: a, q :: b => Nat.beq p.1 q.1 && sx_eqV p.2 q.2 && sx_eqU a b
  | _, _ => false
def sx_eqC (a b : sx_C) : Bool := match a, b with
  | .inl a, .inl b => Nat.beq a.1 b.1 && sx_eqO a.2 b.2
  | .inr a, .inr b => Nat.beq a.1 b.1 && Nat.beq a.2.1 b.2.1 && (bif a.2.2.1 then b.2.2.1 else !b.2.2.1) && sx_eqU a.2.2.2 b.2.2.2
  | _, _ => false
theorem sx_eqz : ∀ {a b : Int}, sx_eq a b = true → a = b
  | .ofNat m, .ofNat n, h => by rw [Nat.eq_of_beq_eq_true (show Nat.beq m n = true from h)]
  | .negSucc m, .negSucc n, h => by rw [Nat.eq_of_beq_eq_true (show Nat.beq m n = true from h)]
  | .ofNat _, .negSucc _, h => by cases h
  | .negSucc _, .ofNat _, h => by cases h
theorem sx_eqL_ok : ∀ {a b : List (Nat × Int)}, sx_eqL a b = true → a = b
  | [], [], _ => rfl
  | (p1, p2) :: a, (q1, q2) :: b, h => by
    have h : (Nat.beq p1 q1 && sx_eq p2 q2 && sx_eqL a b) = true := h
    rw [Bool.and_eq_true, Bool.and_eq_true] at h
    rw [Nat.eq_of_beq_eq_true h.1.1, sx_eqz h.1.2, sx_eqL_ok h.2]
  | [], _ :: _, h => by cases h
  | _ :: _, [], h => by cases h
theorem sx_eqI_ok {a b : sx_I} (h : sx_eqI a b = true) : a = b := by
  obtain ⟨a1, a2⟩ := a
  obtain ⟨b1, b2⟩ := b
  have h : (sx_eq a1 b1 && sx_eqL a2 b2) = true := h
  rw [Bool.and_eq_true] at h
  rw [sx_eqz h.1, sx_eqL_ok h.2]
theorem sx_eqN_ok : ∀ {a b : sx_N}, sx_eqN a b = true → a = b
  | .inl a, .inl b, h => by rw [sx_eqI_ok (show sx_eqI a b = true from h)]
  | .inr (a1, a2), .inr (b1, b2), h => by
    have h : (sx_eq a1 b1 && sx_eq a2 b2) = true := h
    rw [Bool.and_eq_true] at h
    rw [sx_eqz h.1, sx_eqz h.2]
  | .inl _, .inr _, h => by cases h
  | .inr _, .inl _, h => by cases h
theorem sx_eqF_ok : ∀ {a b : sx_F}, sx_eqF a b = true → a = b
  | none, none, _ => rfl
  | some (.inl a), some (.inl b), h => by rw [Nat.eq_of_beq_eq_true (show Nat.beq a b = true from h)]
  | some (.inr a), some (.inr b), h => by rw [Nat.eq_of_beq_eq_true (show Nat.beq a b = true from h)]
  | none, some _, h => by cases h
  | some (.inl _), none, h => by cases h
  | some (.inr _), none, h => by cases h
  | some (.inl _), some (.inr _), h => by cases h
  | some (.inr _), some (.inl _), h => by cases h
theorem sx_eqV_ok : ∀ {a b : sx_V}, sx_eqV a b = true → a = b
  | .inl a, .inl b, h => by rw [sx_eqN_ok (show sx_eqN a b = true from h)]
  | .inr (.inl a), .inr (.inl b), h => by rw [sx_eqI_ok (show sx_eqI a b = true from h)]
  | .inr (.inr a), .inr (.inr b), h => by rw [sx_eqF_ok (show sx_eqF a b = true from h)]
  | .inl _, .inr (.inl _), h => by cases h
  | .inl _, .inr (.inr _), h => by cases h
  | .inr (.inl _), .inl _, h => by cases h
  | .inr (.inr _), .inl _, h => by cases h
  | .inr (.inl _), .inr (.inr _), h => by cases h
  | .inr (.inr _), .inr (.inl _), h => by cases h
theorem sx_eqS_ok : ∀ {a b : List sx_V}, sx_eqS a b = true → a = b
  | [], [], _ => rfl
  | p :: a, q :: b, h => by
    have h : (sx_eqV p q && sx_eqS a b) = true := h
    rw [Bool.and_eq_true] at h
    rw [sx_eqV_ok h.1, sx_eqS_ok h.2]
  | [], _ :: _, h => by cases h
  | _ :: _, [], h => by cases h
theorem sx_eqO_ok : ∀ {a b : List (Option sx_V)}, sx_eqO a b = true → a = b
  | [], [], _ => rfl
  | none :: a, none :: b, h => by rw [sx_eqO_ok (show sx_eqO a b = true from h)]
  | some p :: a, some q :: b, h => by
    have h : (sx_eqV p q && sx_eqO a b) = true := h
    rw [Bool.and_eq_true] at h
    rw [sx_eqV_ok h.1, sx_eqO_ok h.2]
  | none :: _, some _ :: _, h => by cases h
  | some _ :: _, none :: _, h => by cases h
  | [], _ :: _, h => by cases h
  | none :: _, [], h => by cases h
  | some _ :: _, [], h => by cases h
theorem sx_eqU_ok : ∀ {a b : List (Nat × sx_V)}, sx_eqU a b = true → a = b
  | [], [], _ => rfl
  | (p1, p2) :: a, (q1, q2) :: b, h => by
    have h : (Nat.beq p1 q1 && sx_eqV p2 q2 && sx_eqU a b) = true := h
    rw [Bool.and_eq_true, Bool.and_eq_true] at h
    rw [Nat.eq_of_beq_eq_true h.1.1, sx_eqV_ok h.1.2, sx_eqU_ok h.2]
  | [], _ :: _, h => by cases h
  | _ :: _, [], h => by cases h
theorem sx_eqC_ok : ∀ {a b : sx_C}, sx_eqC a b = true → a = b
  | .inl (a1, a2), .inl (b1, b2), h => by
    have h : (Nat.beq a1 b1 && sx_eqO a2 b2) = true := h
    rw [Bool.and_eq_true] at h
    rw [Nat.eq_of_beq_eq_true h.1, sx_eqO_ok h.2]
  | .inr (a1, a2, a3, a4), .inr (b1, b2, b3, b4), h => by
    have h : (Nat.beq a1 b1 && Nat.beq a2 b2 && (bif a3 then b3 else !b3) && sx_eqU a4 b4) = true := h
    rw [Bool.and_eq_true, Bool.and_eq_true, Bool.and_eq_true] at h
    obtain ⟨⟨⟨h1, h2⟩, h3⟩, h4⟩ := h
    have e3 : a3 = b3 := by cases a3 <;> cases b3 <;> first | rfl | cases h3
    rw [Nat.eq_of_beq_eq_true h1, Nat.eq_of_beq_eq_true h2, e3, sx_eqU_ok h4]
  | .inl _, .inr _, h => by cases h
  | .inr _, .inl _, h => by cases h
def sx_eqCo (a : Option sx_C) (b : sx_C) : Bool := match a with
  | some a => sx_eqC a b
  | none => false
theorem sx_eqCo_ok {a : Option sx_C} {b : sx_C} (h : sx_eqCo a b = true) : a = some b := by
  cases a with
  | none => cases h
  | some a => rw [sx_eqC_ok (show sx_eqC a b = true from h)]
def sx_eqSo (a : Option (List sx_V)) (b : List sx_V) : Bool := match a with
  | some a => sx_eqS a b
  | none => false
theorem sx_eqSo_ok {a : Option (List sx_V)} {b : List sx_V} (h : sx_eqSo a b = true) : a = some b := by
  cases a with
  | none => cases h
  | some a => rw [sx_eqS_ok (show sx_eqS a b = true from h)]
