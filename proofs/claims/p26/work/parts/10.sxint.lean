/-! whole numbers with unknowns: c + sum of k * unknown; their bounds; what the machine's numbers make of them -/
abbrev sx_I : Type := Int × List (Nat × Int)
def sx_le : Int → Int → Bool
  | .ofNat m, .ofNat n => Nat.ble m n
  | .ofNat _, .negSucc _ => false
  | .negSucc _, .ofNat _ => true
  | .negSucc m, .negSucc n => Nat.ble n m
def sx_eq : Int → Int → Bool
  | .ofNat m, .ofNat n => Nat.beq m n
  | .negSucc m, .negSucc n => Nat.beq m n
  | _, _ => false
theorem sx_le_iff (a b : Int) : sx_le a b = true ↔ a ≤ b := by
  cases a with
  | ofNat m => cases b with
    | ofNat n => show Nat.ble m n = true ↔ _; rw [Nat.ble_eq]; exact ⟨fun h => Int.ofNat_le.mpr h, fun h => Int.ofNat_le.mp h⟩
    | negSucc n => exact ⟨fun h => (nomatch h), fun h => by have h1 : (m : Int) ≤ Int.negSucc n := h; omega⟩
  | negSucc m => cases b with
    | ofNat n => exact ⟨fun _ => by show Int.negSucc m ≤ (n : Int); omega, fun _ => rfl⟩
    | negSucc n => show Nat.ble n m = true ↔ _; rw [Nat.ble_eq]; omega
theorem sx_eq_iff (a b : Int) : sx_eq a b = true ↔ a = b := by
  cases a with
  | ofNat m => cases b with
    | ofNat n => show Nat.beq m n = true ↔ _; rw [Nat.beq_eq]; exact ⟨fun h => by rw [h], fun h => Int.ofNat.inj h⟩
    | negSucc n => exact ⟨fun h => (nomatch h), fun h => (nomatch h)⟩
  | negSucc m => cases b with
    | ofNat n => exact ⟨fun h => (nomatch h), fun h => (nomatch h)⟩
    | negSucc n => show Nat.beq m n = true ↔ _; rw [Nat.beq_eq]; exact ⟨fun h => by rw [h], fun h => Int.negSucc.inj h⟩
def sx_evl (σ : Nat → Int) : List (Nat × Int) → Int
  | [] => 0
  | q :: t => q.2 * σ q.1 + sx_evl σ t
def sx_ev (σ : Nat → Int) (e : sx_I) : Int := e.1 + sx_evl σ e.2
abbrev sx_c (n : Int) : sx_I := (n, [])
theorem sx_ev_c (σ : Nat → Int) (n : Int) : sx_ev σ (sx_c n) = n := Int.add_zero n
def sx_ins (q : Nat × Int) : List (Nat × Int) → List (Nat × Int)
  | [] => [q]
  | r :: t => bif Nat.beq q.1 r.1 then (bif sx_eq (q.2 + r.2) 0 then t else (q.1, q.2 + r.2) :: t) else bif Nat.ble q.1 r.1 then q :: r :: t else r :: sx_ins q t
theorem sx_ins_ev (σ : Nat → Int) (q : Nat × Int) : ∀ l, sx_evl σ (sx_ins q l) = q.2 * σ q.1 + sx_evl σ l := by
  intro l
  induction l with
  | nil => rfl
  | cons r t ih =>
    unfold sx_ins
    cases h1 : Nat.beq q.1 r.1 with
    | true =>
      have e1 : q.1 = r.1 := Nat.eq_of_beq_eq_true h1
      cases h2 : sx_eq (q.2 + r.2) 0 with
      | true =>
        have e2 := (sx_eq_iff _ _).mp h2
        show sx_evl σ t = q.2 * σ q.1 + (r.2 * σ r.1 + sx_evl σ t)
        rw [e1, ← Int.add_assoc, ← Int.add_mul, e2]
        omega
      | false =>
        show (q.2 + r.2) * σ q.1 + sx_evl σ t = q.2 * σ q.1 + (r.2 * σ r.1 + sx_evl σ t)
        rw [e1, Int.add_mul]
        omega
    | false =>
      cases h3 : Nat.ble q.1 r.1 with
      | true => rfl
      | false =>
        show r.2 * σ r.1 + sx_evl σ (sx_ins q t) = q.2 * σ q.1 + (r.2 * σ r.1 + sx_evl σ t)
        rw [ih]
        omega
def sx_addl : List (Nat × Int) → List (Nat × Int) → List (Nat × Int)
  | [], m => m
  | q :: t, m => sx_ins q (sx_addl t m)
theorem sx_addl_ev (σ : Nat → Int) (m : List (Nat × Int)) : ∀ l, sx_evl σ (sx_addl l m) = sx_evl σ l + sx_evl σ m := by
  intro l
  induction l with
  | nil => show sx_evl σ m = 0 + sx_evl σ m; omega
  | cons q t ih =>
    show sx_evl σ (sx_ins q (sx_addl t m)) = q.2 * σ q.1 + sx_evl σ t + sx_evl σ m
    rw [sx_ins_ev, ih]
    omega
def sx_add (a b : sx_I) : sx_I := (a.1 + b.1, sx_addl a.2 b.2)
theorem sx_add_ev (σ : Nat → Int) (a b : sx_I) : sx_ev σ (sx_add a b) = sx_ev σ a + sx_ev σ b := by
  show a.1 + b.1 + sx_evl σ (sx_addl a.2 b.2) = a.1 + sx_evl σ a.2 + (b.1 + sx_evl σ b.2)
  rw [sx_addl_ev]
  omega
def sx_mull (k : Int) : List (Nat × Int) → List (Nat × Int)
  | [] => []
  | q :: t => (q.1, k * q.2) :: sx_mull k t
theorem sx_mull_ev (σ : Nat → Int) (k : Int) : ∀ l, sx_evl σ (sx_mull k l) = k * sx_evl σ l := by
  intro l
  induction l with
  | nil => show (0 : Int) = k * 0; omega
  | cons q t ih =>
    show k * q.2 * σ q.1 + sx_evl σ (sx_mull k t) = k * (q.2 * σ q.1 + sx_evl σ t)
    rw [ih, Int.mul_add, Int.mul_assoc]
def sx_mul (k : Int) (a : sx_I) : sx_I := (k * a.1, bif sx_eq k 0 then [] else sx_mull k a.2)
theorem sx_mul_ev (σ : Nat → Int) (k : Int) (a : sx_I) : sx_ev σ (sx_mul k a) = k * sx_ev σ a := by
  show k * a.1 + sx_evl σ (bif sx_eq k 0 then [] else sx_mull k a.2) = k * (a.1 + sx_evl σ a.2)
  cases h : sx_eq k 0 with
  | true => rw [(sx_eq_iff _ _).mp h]; show (0 : Int) * a.1 + 0 = 0 * _; omega
  | false => show k * a.1 + sx_evl σ (sx_mull k a.2) = _; rw [sx_mull_ev, Int.mul_add]
def sx_sub (a b : sx_I) : sx_I := sx_add a (sx_mul (-1) b)
theorem sx_sub_ev (σ : Nat → Int) (a b : sx_I) : sx_ev σ (sx_sub a b) = sx_ev σ a - sx_ev σ b := by
  unfold sx_sub
  rw [sx_add_ev, sx_mul_ev]
  omega
/-! modulo 2^32 or 2^64 -/
def sx_md (m x : Int) : Int := (x + m / 2) % m - m / 2
theorem sx_md_eq (m x : Int) : ∃ k, x = sx_md m x + m * k := ⟨(x + m / 2) / m, by
  unfold sx_md
  have h := Int.emod_add_mul_ediv (x + m / 2) m
  omega⟩
def sx_nl (m : Int) : List (Nat × Int) → List (Nat × Int)
  | [] => []
  | q :: t => bif sx_eq (sx_md m q.2) 0 then sx_nl m t else (q.1, sx_md m q.2) :: sx_nl m t
theorem sx_nl_ev (σ : Nat → Int) (m : Int) : ∀ l, ∃ k, sx_evl σ l = sx_evl σ (sx_nl m l) + m * k := by
  intro l
  induction l with
  | nil => exact ⟨0, by show (0 : Int) = 0 + m * 0; omega⟩
  | cons q t ih =>
    obtain ⟨k, hk⟩ := ih
    obtain ⟨j, hj⟩ := sx_md_eq m q.2
    refine ⟨j * σ q.1 + k, ?_⟩
    have e : sx_evl σ (q :: t) = sx_md m q.2 * σ q.1 + sx_evl σ (sx_nl m t) + m * (j * σ q.1 + k) := by
      show q.2 * σ q.1 + sx_evl σ t = _
      rw [hk, Int.mul_add, ← Int.mul_assoc]
      have : q.2 * σ q.1 = sx_md m q.2 * σ q.1 + m * j * σ q.1 := by rw [← Int.add_mul, ← hj]
      omega
    rw [e, show sx_nl m (q :: t) = bif sx_eq (sx_md m q.2) 0 then sx_nl m t else (q.1, sx_md m q.2) :: sx_nl m t from rfl]
    cases h : sx_eq (sx_md m q.2) 0 with
    | true => rw [(sx_eq_iff _ _).mp h]; show (0 : Int) * _ + _ + _ = sx_evl σ (sx_nl m t) + _; omega
    | false => rfl
def sx_nm (m : Int) (e : sx_I) : sx_I := (sx_md m e.1, sx_nl m e.2)
theorem sx_nm_ev (σ : Nat → Int) (m : Int) (e : sx_I) : ∃ k, sx_ev σ e = sx_ev σ (sx_nm m e) + m * k := by
  obtain ⟨k, hk⟩ := sx_nl_ev σ m e.2
  obtain ⟨j, hj⟩ := sx_md_eq m e.1
  refine ⟨j + k, ?_⟩
  show e.1 + sx_evl σ e.2 = sx_md m e.1 + sx_evl σ (sx_nl m e.2) + m * (j + k)
  rw [hk, Int.mul_add]
  omega
theorem sx_of32 (x k : Int) : Int32.ofInt (x + 4294967296 * k) = Int32.ofInt x := by
  apply Int32.toInt_inj.mp
  rw [Int32.toInt_ofInt, Int32.toInt_ofInt]
  exact Int.add_mul_bmod_self_left x Int32.size k
theorem sx_of64 (x k : Int) : Int64.ofInt (x + 18446744073709551616 * k) = Int64.ofInt x := by
  apply Int64.toInt_inj.mp
  rw [Int64.toInt_ofInt, Int64.toInt_ofInt]
  exact Int.add_mul_bmod_self_left x Int64.size k
abbrev sx_m32 : Int := 4294967296
abbrev sx_m64 : Int := 18446744073709551616
theorem sx_nm32 (σ : Nat → Int) (e : sx_I) : Int32.ofInt (sx_ev σ (sx_nm sx_m32 e)) = Int32.ofInt (sx_ev σ e) := by
  obtain ⟨k, hk⟩ := sx_nm_ev σ sx_m32 e
  rw [hk, sx_of32]
theorem sx_nm64 (σ : Nat → Int) (e : sx_I) : Int64.ofInt (sx_ev σ (sx_nm sx_m64 e)) = Int64.ofInt (sx_ev σ e) := by
  obtain ⟨k, hk⟩ := sx_nm_ev σ sx_m64 e
  rw [hk, sx_of64]
/-! bounds -/
abbrev sx_Bs : Type := List (Nat × Int × Int)
def sx_bd : sx_Bs → Nat → Option (Int × Int)
  | [], _ => none
  | q :: t, a => bif Nat.beq q.1 a then some q.2 else sx_bd t a
def sx_okB (σ : Nat → Int) (B : sx_Bs) : Prop := ∀ q ∈ B, q.2.1 ≤ σ q.1 ∧ σ q.1 ≤ q.2.2
theorem sx_bd_ok {σ : Nat → Int} {a : Nat} {r : Int × Int} : ∀ {B : sx_Bs}, sx_okB σ B → sx_bd B a = some r → r.1 ≤ σ a ∧ σ a ≤ r.2
  | [], _, h => nomatch h
  | q :: t, hB, h => by
    unfold sx_bd at h
    cases h1 : Nat.beq q.1 a with
    | true =>
      rw [h1] at h
      cases h
      rw [← Nat.eq_of_beq_eq_true h1]
      exact hB q List.mem_cons_self
    | false =>
      rw [h1] at h
      exact sx_bd_ok (fun x hx => hB x (List.mem_cons_of_mem _ hx)) h
def sx_ivl (B : sx_Bs) : List (Nat × Int) → Option (Int × Int)
  | [] => some (0, 0)
  | q :: t => match sx_bd B q.1 with
    | none => none
    | some r => match sx_ivl B t with
      | none => none
      | some z => bif sx_le 0 q.2 then some (q.2 * r.1 + z.1, q.2 * r.2 + z.2) else some (q.2 * r.2 + z.1, q.2 * r.1 + z.2)
theorem sx_ivl_ok {σ : Nat → Int} {B : sx_Bs} (hB : sx_okB σ B) : ∀ {l : List (Nat × Int)} {z : Int × Int}, sx_ivl B l = some z → z.1 ≤ sx_evl σ l ∧ sx_evl σ l ≤ z.2
  | [], z, h => by cases h; exact ⟨Int.le_refl _, Int.le_refl _⟩
  | q :: t, z, h => by
    unfold sx_ivl at h
    cases h1 : sx_bd B q.1 with
    | none => rw [h1] at h; cases h
    | some r =>
      rw [h1] at h
      cases h2 : sx_ivl B t with
      | none => rw [h2] at h; cases h
      | some y =>
        rw [h2] at h
        obtain ⟨a1, a2⟩ := sx_bd_ok hB h1
        obtain ⟨b1, b2⟩ := sx_ivl_ok hB h2
        show z.1 ≤ q.2 * σ q.1 + sx_evl σ t ∧ q.2 * σ q.1 + sx_evl σ t ≤ z.2
        cases h3 : sx_le 0 q.2 with
        | true =>
          rw [h3] at h
          cases h
          have hq := (sx_le_iff _ _).mp h3
          have c1 := Int.mul_le_mul_of_nonneg_left a1 hq
          have c2 := Int.mul_le_mul_of_nonneg_left a2 hq
          exact ⟨by show q.2 * r.1 + y.1 ≤ _; omega, by show _ ≤ q.2 * r.2 + y.2; omega⟩
        | false =>
          rw [h3] at h
          cases h
          have hq : q.2 ≤ 0 := by
            have : ¬ 0 ≤ q.2 := fun q9 => by rw [(sx_le_iff _ _).mpr q9] at h3; cases h3
            omega
          have c1 := Int.mul_le_mul_of_nonpos_left hq a1
          have c2 := Int.mul_le_mul_of_nonpos_left hq a2
          exact ⟨by show q.2 * r.2 + y.1 ≤ _; omega, by show _ ≤ q.2 * r.1 + y.2; omega⟩
def sx_iv (B : sx_Bs) (e : sx_I) : Option (Int × Int) := match sx_ivl B e.2 with
  | none => none
  | some z => some (e.1 + z.1, e.1 + z.2)
theorem sx_iv_ok {σ : Nat → Int} {B : sx_Bs} (hB : sx_okB σ B) {e : sx_I} {z : Int × Int} (h : sx_iv B e = some z) : z.1 ≤ sx_ev σ e ∧ sx_ev σ e ≤ z.2 := by
  unfold sx_iv at h
  cases h1 : sx_ivl B e.2 with
  | none => rw [h1] at h; cases h
  | some y =>
    rw [h1] at h
    cases h
    obtain ⟨b1, b2⟩ := sx_ivl_ok hB h1
    unfold sx_ev
    exact ⟨by show e.1 + y.1 ≤ _; omega, by show _ ≤ e.1 + y.2; omega⟩
/-- it lies between -/
def sx_in (B : sx_Bs) (e : sx_I) (lo hi : Int) : Bool := match sx_iv B e with
  | none => false
  | some z => sx_le lo z.1 && sx_le z.2 hi
theorem sx_in_ok {σ : Nat → Int} {B : sx_Bs} (hB : sx_okB σ B) {e : sx_I} {lo hi : Int} (h : sx_in B e lo hi = true) : lo ≤ sx_ev σ e ∧ sx_ev σ e ≤ hi := by
  unfold sx_in at h
  cases h1 : sx_iv B e with
  | none => rw [h1] at h; cases h
  | some z =>
    rw [h1] at h
    rw [Bool.and_eq_true] at h
    obtain ⟨a1, a2⟩ := sx_iv_ok hB h1
    exact ⟨Int.le_trans ((sx_le_iff _ _).mp h.1) a1, Int.le_trans a2 ((sx_le_iff _ _).mp h.2)⟩
abbrev sx_in32 (B : sx_Bs) (e : sx_I) : Bool := sx_in B e (-2147483648) 2147483647
abbrev sx_in64 (B : sx_Bs) (e : sx_I) : Bool := sx_in B e (-9223372036854775808) 9223372036854775807
/-! parts that a number divides -/
def sx_dv (c : Int) : List (Nat × Int) → List (Nat × Int) × List (Nat × Int)
  | [] => ([], [])
  | q :: t => bif sx_eq (q.2 % c) 0 then ((q.1, q.2 / c) :: (sx_dv c t).1, (sx_dv c t).2) else ((sx_dv c t).1, q :: (sx_dv c t).2)
theorem sx_dv_ev (σ : Nat → Int) (c : Int) : ∀ l, sx_evl σ l = c * sx_evl σ (sx_dv c l).1 + sx_evl σ (sx_dv c l).2 := by
  intro l
  induction l with
  | nil => show (0 : Int) = c * 0 + 0; omega
  | cons q t ih =>
    unfold sx_dv
    cases h : sx_eq (q.2 % c) 0 with
    | true =>
      have e := (sx_eq_iff _ _).mp h
      have e2 : q.2 = c * (q.2 / c) := by have := Int.emod_add_mul_ediv q.2 c; omega
      show q.2 * σ q.1 + sx_evl σ t = c * (q.2 / c * σ q.1 + sx_evl σ (sx_dv c t).1) + sx_evl σ (sx_dv c t).2
      rw [ih, Int.mul_add, ← Int.mul_assoc, ← e2]
      omega
    | false =>
      show q.2 * σ q.1 + sx_evl σ t = c * sx_evl σ (sx_dv c t).1 + (q.2 * σ q.1 + sx_evl σ (sx_dv c t).2)
      rw [ih]
      omega
def sx_qt (c : Int) (e : sx_I) : sx_I := (e.1 / c, (sx_dv c e.2).1)
def sx_rm (c : Int) (e : sx_I) : sx_I := (e.1 % c, (sx_dv c e.2).2)
theorem sx_qr_ev (σ : Nat → Int) (c : Int) (e : sx_I) : sx_ev σ e = c * sx_ev σ (sx_qt c e) + sx_ev σ (sx_rm c e) := by
  show e.1 + sx_evl σ e.2 = c * (e.1 / c + sx_evl σ (sx_dv c e.2).1) + (e.1 % c + sx_evl σ (sx_dv c e.2).2)
  rw [Int.mul_add, sx_dv_ev σ c e.2]
  have := Int.emod_add_mul_ediv e.1 c
  omega
/-- both parts, where what is left lies from 0 to c - 1 -/
def sx_div (B : sx_Bs) (c : Int) (e : sx_I) : Option (sx_I × sx_I) := bif sx_le 1 c && sx_in B (sx_rm c e) 0 (c - 1) then some (sx_qt c e, sx_rm c e) else none
theorem sx_div_ok {σ : Nat → Int} {B : sx_Bs} (hB : sx_okB σ B) {c : Int} {e : sx_I} {z : sx_I × sx_I} (h : sx_div B c e = some z) : sx_ev σ z.1 = sx_ev σ e / c ∧ sx_ev σ z.2 = sx_ev σ e % c ∧ 1 ≤ c := by
  unfold sx_div at h
  cases h1 : (sx_le 1 c && sx_in B (sx_rm c e) 0 (c - 1)) with
  | false => rw [h1] at h; cases h
  | true =>
    rw [h1] at h
    cases h
    rw [Bool.and_eq_true] at h1
    have hc := (sx_le_iff _ _).mp h1.1
    obtain ⟨a1, a2⟩ := sx_in_ok hB h1.2
    have e1 := sx_qr_ev σ c e
    refine ⟨?_, ?_, hc⟩
    · rw [e1, Int.add_comm, Int.add_mul_ediv_left _ _ (by omega), Int.ediv_eq_zero_of_lt a1 (by omega)]
      show sx_ev σ (sx_qt c e) = (0 : Int) + sx_ev σ (sx_qt c e)
      omega
    · rw [e1, Int.add_comm, Int.add_mul_emod_self_left, Int.emod_eq_of_lt a1 (by omega)]
