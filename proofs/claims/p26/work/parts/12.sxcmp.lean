/-! narrowing -/
def sx_ni2b (B : sx_Bs) (x : sx_N) : Option sx_N := match x with
  | .inl a => match a.2 with
    | [] => some (.inl (sx_c (Int8.ofInt a.1).toInt))
    | _ => bif sx_in B (sx_rm 256 a) (-128) 127 then some (.inl (sx_rm 256 a)) else some (.inr (-128, 127))
  | .inr _ => some (.inr (-128, 127))
theorem sx_ni2b_ok {σ : Nat → Int} {B : sx_Bs} (hB : sx_okB σ B) {v u : sx_N} {x : Int32} (h : sx_ni2b B v = some u) (hx : sx_RN σ v x) : sx_RN σ u x.toInt8.toInt32 := by
  have e8 : ∀ i : Int, (Int32.ofInt i).toInt8.toInt32 = Int32.ofInt (Int8.ofInt i).toInt := fun i => by rw [Int32.ofInt_int8ToInt, Int32.toInt8_ofInt]
  have any : ∀ y : Int32, sx_RN σ (.inr (-128, 127)) y.toInt8.toInt32 := fun y => by
    refine ⟨y.toInt8.toInt, ?_, ?_, (Int32.ofInt_int8ToInt _).symm⟩
    · have := Int8.le_toInt y.toInt8; show (-128 : Int) ≤ _; omega
    · have := Int8.toInt_lt y.toInt8; show _ ≤ (127 : Int); omega
  unfold sx_ni2b at h
  split at h
  · rename_i a
    have hx : x = Int32.ofInt (sx_ev σ a) := hx
    split at h
    · rename_i h0
      cases h
      have ea : sx_ev σ a = a.1 := by show a.1 + sx_evl σ a.2 = a.1; rw [h0]; exact Int.add_zero _
      show _ = Int32.ofInt (sx_ev σ (sx_c _))
      rw [sx_ev_c, hx, ea, e8]
    · cases h1 : sx_in B (sx_rm 256 a) (-128) 127 with
      | false => rw [h1] at h; cases h; exact any x
      | true =>
        rw [h1] at h
        cases h
        obtain ⟨i1, i2⟩ := sx_in_ok hB h1
        show _ = Int32.ofInt _
        have hbm : ∀ q r : Int, -128 ≤ r → r ≤ 127 → Int.bmod (r + 256 * q) Int8.size = r := fun q r h1 h2 => by
          rw [show (256 : Int) = ((Int8.size : Nat) : Int) by decide, Int.add_mul_bmod_self_left]
          exact Int.bmod_eq_of_le (by show -((256 : Int) / 2) ≤ r; omega) (by show r < ((256 : Int) + 1) / 2; omega)
        rw [hx, e8, Int8.toInt_ofInt, sx_qr_ev σ 256 a, Int.add_comm, hbm _ _ i1 i2]
  · cases h; exact any x
def sx_ni2c (B : sx_Bs) (x : sx_N) : Option sx_N := match x with
  | .inl a => match sx_div B 65536 a with
    | some z => some (.inl z.2)
    | none => some (.inr (0, 65535))
  | .inr _ => some (.inr (0, 65535))
theorem sx_ni2c_ok {σ : Nat → Int} {B : sx_Bs} (hB : sx_okB σ B) {v u : sx_N} {x : Int32} (h : sx_ni2c B v = some u) (hx : sx_RN σ v x) : sx_RN σ u ((x.toUInt32 % 65536).toInt32) := by
  have key : ∀ i : Int, ((Int32.ofInt i).toUInt32 % 65536).toInt32 = Int32.ofInt (i % 65536) := fun i => by
    rw [pk_char]
    show Int32.ofNat _ = _
    rw [← Int32.ofInt_eq_ofNat]
    congr 1
    have := sx_toN i
    omega
  have any : ∀ y : Int32, sx_RN σ (.inr (0, 65535)) (y.toUInt32 % 65536).toInt32 := fun y => by
    refine ⟨y.toInt % 65536, by show (0 : Int) ≤ _; omega, by show _ ≤ (65535 : Int); omega, ?_⟩
    rw [← key, Int32.ofInt_toInt]
  unfold sx_ni2c at h
  split at h
  · rename_i a
    have hx : x = Int32.ofInt (sx_ev σ a) := hx
    split at h
    · rename_i z hz
      cases h
      obtain ⟨-, d2, -⟩ := sx_div_ok hB hz
      show _ = Int32.ofInt _
      rw [hx, key, d2]
    · cases h; exact any x
  · cases h; exact any x
/-! comparing -/
def sx_dif (B : sx_Bs) (x y : sx_N) : Option (Int × Int) := match x, y with
  | .inl a, .inl b => bif sx_in32 B a && sx_in32 B b then sx_iv B (sx_sub a b) else none
  | x, y => match sx_r32 B x, sx_r32 B y with
    | some p, some q => some (p.1 - q.2, p.2 - q.1)
    | _, _ => none
theorem sx_dif_ok {σ : Nat → Int} {B : sx_Bs} (hB : sx_okB σ B) {v w : sx_N} {d : Int × Int} {x y : Int32} (h : sx_dif B v w = some d) (hx : sx_RN σ v x) (hy : sx_RN σ w y) : ∃ i j : Int, x = Int32.ofInt i ∧ y = Int32.ofInt j ∧ -2147483648 ≤ i ∧ i ≤ 2147483647 ∧ -2147483648 ≤ j ∧ j ≤ 2147483647 ∧ d.1 ≤ i - j ∧ i - j ≤ d.2 := by
  unfold sx_dif at h
  split at h
  · rename_i a b
    cases h1 : (sx_in32 B a && sx_in32 B b) with
    | false => rw [h1] at h; cases h
    | true =>
      rw [h1] at h
      rw [Bool.and_eq_true] at h1
      obtain ⟨a1, a2⟩ := sx_in_ok hB h1.1
      obtain ⟨b1, b2⟩ := sx_in_ok hB h1.2
      obtain ⟨d1, d2⟩ := sx_iv_ok hB h
      rw [sx_sub_ev] at d1 d2
      exact ⟨_, _, hx, hy, a1, a2, b1, b2, d1, d2⟩
  · split at h
    · rename_i p q h1 h2
      cases h
      obtain ⟨i, a1, a2, a3, a4, a5⟩ := sx_r32_ok hB h1 hx
      obtain ⟨j, b1, b2, b3, b4, b5⟩ := sx_r32_ok hB h2 hy
      exact ⟨i, j, a3, b3, a4, a5, b4, b5, by show p.1 - q.2 ≤ _; omega, by show _ ≤ p.2 - q.1; omega⟩
    · cases h
def sx_P (c : Jvm.ClassFile.Cond) (x y : Int32) : Prop := match c with
  | .eq => x = y
  | .ne => ¬ x = y
  | .lt => x < y
  | .ge => y ≤ x
  | .gt => y < x
  | .le => x ≤ y
/-- what is known of a comparison, the difference lying between two numbers -/
def sx_rel (c : Jvm.ClassFile.Cond) (d : Int × Int) : Option Bool := match c with
  | .eq => bif sx_eq d.1 0 && sx_eq d.2 0 then some true else bif sx_le 1 d.1 || sx_le d.2 (-1) then some false else none
  | .ne => bif sx_eq d.1 0 && sx_eq d.2 0 then some false else bif sx_le 1 d.1 || sx_le d.2 (-1) then some true else none
  | .lt => bif sx_le d.2 (-1) then some true else bif sx_le 0 d.1 then some false else none
  | .ge => bif sx_le d.2 (-1) then some false else bif sx_le 0 d.1 then some true else none
  | .gt => bif sx_le 1 d.1 then some true else bif sx_le d.2 0 then some false else none
  | .le => bif sx_le 1 d.1 then some false else bif sx_le d.2 0 then some true else none
theorem sx_rel_i {c : Jvm.ClassFile.Cond} {d : Int × Int} {t : Bool} (h : sx_rel c d = some t) {k : Int} (h1 : d.1 ≤ k) (h2 : k ≤ d.2) : match c with
  | .eq => (k = 0 ↔ t = true)
  | .ne => (¬ k = 0 ↔ t = true)
  | .lt => (k < 0 ↔ t = true)
  | .ge => (0 ≤ k ↔ t = true)
  | .gt => (0 < k ↔ t = true)
  | .le => (k ≤ 0 ↔ t = true) := by
  have fin : ∀ {P : Prop}, P → (P ↔ true = true) := fun p => ⟨fun _ => rfl, fun _ => p⟩
  have fno : ∀ {P : Prop}, ¬ P → (P ↔ false = true) := fun p => ⟨fun q => absurd q p, fun q => nomatch q⟩
  have two : ∀ {a b : Bool} {x y : Bool}, (bif a then some x else bif b then some y else none) = some t → (a = true ∧ t = x) ∨ (a = false ∧ b = true ∧ t = y) := by
    intro a b x y h
    cases a with
    | true => exact Or.inl ⟨rfl, (Option.some.inj h).symm⟩
    | false => cases b with
      | true => exact Or.inr ⟨rfl, rfl, (Option.some.inj h).symm⟩
      | false => cases h
  unfold sx_rel at h
  cases c with
  | eq =>
    rcases two h with ⟨q, rfl⟩ | ⟨-, q, rfl⟩
    · rw [Bool.and_eq_true, sx_eq_iff, sx_eq_iff] at q; exact fin (by omega)
    · rw [Bool.or_eq_true, sx_le_iff, sx_le_iff] at q; exact fno (by omega)
  | ne =>
    rcases two h with ⟨q, rfl⟩ | ⟨-, q, rfl⟩
    · rw [Bool.and_eq_true, sx_eq_iff, sx_eq_iff] at q; exact fno (by omega)
    · rw [Bool.or_eq_true, sx_le_iff, sx_le_iff] at q; exact fin (by omega)
  | lt =>
    rcases two h with ⟨q, rfl⟩ | ⟨-, q, rfl⟩
    · rw [sx_le_iff] at q; exact fin (by omega)
    · rw [sx_le_iff] at q; exact fno (by omega)
  | ge =>
    rcases two h with ⟨q, rfl⟩ | ⟨-, q, rfl⟩
    · rw [sx_le_iff] at q; exact fno (by omega)
    · rw [sx_le_iff] at q; exact fin (by omega)
  | gt =>
    rcases two h with ⟨q, rfl⟩ | ⟨-, q, rfl⟩
    · rw [sx_le_iff] at q; exact fin (by omega)
    · rw [sx_le_iff] at q; exact fno (by omega)
  | le =>
    rcases two h with ⟨q, rfl⟩ | ⟨-, q, rfl⟩
    · rw [sx_le_iff] at q; exact fno (by omega)
    · rw [sx_le_iff] at q; exact fin (by omega)
theorem sx_cmp_ok {σ : Nat → Int} {B : sx_Bs} (hB : sx_okB σ B) {v w : sx_N} {d : Int × Int} {x y : Int32} (h : sx_dif B v w = some d) (hx : sx_RN σ v x) (hy : sx_RN σ w y) {c : Jvm.ClassFile.Cond} {t : Bool} (hr : sx_rel c d = some t) : sx_P c x y ↔ t = true := by
  obtain ⟨i, j, e1, e2, i1, i2, j1, j2, d1, d2⟩ := sx_dif_ok hB h hx hy
  have key := sx_rel_i hr d1 d2
  have ti : x.toInt = i := by rw [e1]; exact Int32.toInt_ofInt_of_le (by omega) (by omega)
  have tj : y.toInt = j := by rw [e2]; exact Int32.toInt_ofInt_of_le (by omega) (by omega)
  have heq : x = y ↔ i - j = 0 := by rw [← Int32.toInt_inj, ti, tj]; omega
  cases c with
  | eq => exact heq.trans key
  | ne => exact (not_congr heq).trans key
  | lt => refine Iff.trans ?_ key; show x < y ↔ _; rw [Int32.lt_iff_toInt_lt, ti, tj]; omega
  | ge => refine Iff.trans ?_ key; show y ≤ x ↔ _; rw [Int32.le_iff_toInt_le, ti, tj]; omega
  | gt => refine Iff.trans ?_ key; show y < x ↔ _; rw [Int32.lt_iff_toInt_lt, ti, tj]; omega
  | le => refine Iff.trans ?_ key; show x ≤ y ↔ _; rw [Int32.le_iff_toInt_le, ti, tj]; omega
/-! longs -/
def sx_RL (σ : Nat → Int) (e : sx_I) (x : Int64) : Prop := x = Int64.ofInt (sx_ev σ e)
abbrev sx_lnm (e : sx_I) : sx_I := sx_nm sx_m64 e
theorem sx_ladd_ok {σ : Nat → Int} {a b : sx_I} {x y : Int64} (hx : sx_RL σ a x) (hy : sx_RL σ b y) : sx_RL σ (sx_lnm (sx_add a b)) (x + y) := by
  show _ = Int64.ofInt _
  rw [sx_nm64, sx_add_ev, Int64.ofInt_add, ← hx, ← hy]
theorem sx_lsub_ok {σ : Nat → Int} {a b : sx_I} {x y : Int64} (hx : sx_RL σ a x) (hy : sx_RL σ b y) : sx_RL σ (sx_lnm (sx_sub a b)) (x - y) := by
  show _ = Int64.ofInt _
  rw [sx_nm64, sx_sub_ev, Int64.ofInt_sub, ← hx, ← hy]
theorem sx_lneg_ok {σ : Nat → Int} {a : sx_I} {x : Int64} (hx : sx_RL σ a x) : sx_RL σ (sx_lnm (sx_mul (-1) a)) (-x) := by
  show _ = Int64.ofInt _
  rw [sx_nm64, sx_mul_ev, show (-1 : Int) * sx_ev σ a = -sx_ev σ a by omega, Int64.ofInt_neg, ← hx]
def sx_lmul (a b : sx_I) : Option sx_I := match a.2, b.2 with
  | [], _ => some (sx_lnm (sx_mul a.1 b))
  | _, [] => some (sx_lnm (sx_mul b.1 a))
  | _, _ => none
theorem sx_cev {σ : Nat → Int} {a : sx_I} (h : a.2 = []) : sx_ev σ a = a.1 := by show a.1 + sx_evl σ a.2 = a.1; rw [h]; exact Int.add_zero _
theorem sx_lmul_ok {σ : Nat → Int} {a b u : sx_I} {x y : Int64} (h : sx_lmul a b = some u) (hx : sx_RL σ a x) (hy : sx_RL σ b y) : sx_RL σ u (x * y) := by
  have hx : x = Int64.ofInt (sx_ev σ a) := hx
  have hy : y = Int64.ofInt (sx_ev σ b) := hy
  unfold sx_lmul at h
  split at h
  · rename_i h0
    cases h
    show _ = Int64.ofInt _
    rw [sx_nm64, sx_mul_ev, hx, hy, sx_cev h0, Int64.ofInt_mul]
  · rename_i h0 _
    cases h
    show _ = Int64.ofInt _
    rw [sx_nm64, sx_mul_ev, hx, hy, sx_cev h0, Int64.ofInt_mul, Int64.mul_comm]
  · cases h
def sx_ldiv (B : sx_Bs) (a b : sx_I) : Option (sx_I × sx_I) := match b.2 with
  | [] => bif sx_le 1 b.1 && sx_le b.1 9223372036854775807 then (match a.2 with
    | [] => bif sx_le (-9223372036854775807) a.1 && sx_le a.1 9223372036854775807 then some (sx_c (Int.tdiv a.1 b.1), sx_c (Int.tmod a.1 b.1)) else none
    | _ => bif sx_in B a 0 9223372036854775807 then sx_div B b.1 a else none) else none
  | _ => none
theorem sx_ldiv_ok {σ : Nat → Int} {B : sx_Bs} (hB : sx_okB σ B) {a b : sx_I} {z : sx_I × sx_I} {x y : Int64} (h : sx_ldiv B a b = some z) (hx : sx_RL σ a x) (hy : sx_RL σ b y) : sx_RL σ z.1 (x / y) ∧ sx_RL σ z.2 (x - x / y * y) ∧ ¬ y = 0 := by
  have hx : x = Int64.ofInt (sx_ev σ a) := hx
  have hy : y = Int64.ofInt (sx_ev σ b) := hy
  unfold sx_ldiv at h
  split at h
  · rename_i h0
    cases h1 : (sx_le 1 b.1 && sx_le b.1 9223372036854775807) with
    | false => rw [h1] at h; cases h
    | true =>
      rw [h1] at h
      rw [Bool.and_eq_true, sx_le_iff, sx_le_iff] at h1
      rw [sx_cev h0] at hy
      have nz : ¬ y = 0 := fun q => by
        rw [hy] at q
        have := congrArg Int64.toInt q
        rw [Int64.toInt_ofInt_of_le (by omega) (by omega), Int64.toInt_zero] at this
        omega
      have dm : ∀ {i : Int}, -9223372036854775807 ≤ i → i ≤ 9223372036854775807 → Int64.ofInt i / y = Int64.ofInt (Int.tdiv i b.1) ∧ Int64.ofInt i - Int64.ofInt i / y * y = Int64.ofInt (Int.tmod i b.1) := fun {i} q1 q2 => by
        have q0 : Int64.ofInt i / y = Int64.ofInt (Int.tdiv i b.1) := by rw [hy, Int64.ofInt_tdiv (by rw [Int64.toInt_minValue]; omega) (by rw [Int64.toInt_maxValue]; omega) (by rw [Int64.toInt_minValue]; omega) (by rw [Int64.toInt_maxValue]; omega)]
        refine ⟨q0, ?_⟩
        rw [q0, hy, ← Int64.ofInt_mul, ← Int64.ofInt_sub]
        congr 1
        have q3 := Int.tmod_add_mul_tdiv i b.1
        rw [Int.mul_comm] at q3
        omega
      split at h
      · rename_i h2
        cases h3 : (sx_le (-9223372036854775807) a.1 && sx_le a.1 9223372036854775807) with
        | false => rw [h3] at h; cases h
        | true =>
          rw [h3] at h
          cases h
          rw [Bool.and_eq_true, sx_le_iff, sx_le_iff] at h3
          rw [sx_cev h2] at hx
          refine ⟨?_, ?_, nz⟩
          · show _ = Int64.ofInt (sx_ev σ (sx_c _)); rw [sx_ev_c, hx]; exact (dm h3.1 h3.2).1
          · show _ = Int64.ofInt (sx_ev σ (sx_c _)); rw [sx_ev_c, hx]; exact (dm h3.1 h3.2).2
      · cases h3 : sx_in B a 0 9223372036854775807 with
        | false => rw [h3] at h; cases h
        | true =>
          rw [h3] at h
          obtain ⟨i1, i2⟩ := sx_in_ok hB h3
          obtain ⟨d1, d2, -⟩ := sx_div_ok hB h
          refine ⟨?_, ?_, nz⟩
          · show _ = Int64.ofInt _; rw [d1, ← Int.tdiv_eq_ediv_of_nonneg i1, hx]; exact (dm (by omega) i2).1
          · show _ = Int64.ofInt _; rw [d2, ← Int.tmod_eq_emod_of_nonneg i1, hx]; exact (dm (by omega) i2).2
  · cases h
/-- two numbers that are known, with what the machine makes of them -/
def sx_lcc (f : Int64 → Int64 → Int64) (a b : sx_I) : Option sx_I := match a.2, b.2 with
  | [], [] => some (sx_c (f (Int64.ofInt a.1) (Int64.ofInt b.1)).toInt)
  | _, _ => none
theorem sx_lcc_ok {σ : Nat → Int} {f : Int64 → Int64 → Int64} {a b u : sx_I} {x y : Int64} (h : sx_lcc f a b = some u) (hx : sx_RL σ a x) (hy : sx_RL σ b y) : sx_RL σ u (f x y) := by
  have hx : x = Int64.ofInt (sx_ev σ a) := hx
  have hy : y = Int64.ofInt (sx_ev σ b) := hy
  unfold sx_lcc at h
  split at h
  · rename_i h1 h2
    cases h
    show _ = Int64.ofInt (sx_ev σ (sx_c _))
    rw [sx_ev_c, Int64.ofInt_toInt, hx, hy, sx_cev h1, sx_cev h2]
  · cases h
def sx_lsh (f : Int64 → Int32 → Int64) (a : sx_I) (y : sx_N) : Option sx_I := match a.2, y with
  | [], .inl (b, []) => some (sx_c (f (Int64.ofInt a.1) (Int32.ofInt b)).toInt)
  | _, _ => none
theorem sx_lsh_ok {σ : Nat → Int} {f : Int64 → Int32 → Int64} {a u : sx_I} {w : sx_N} {x : Int64} {y : Int32} (h : sx_lsh f a w = some u) (hx : sx_RL σ a x) (hy : sx_RN σ w y) : sx_RL σ u (f x y) := by
  have hx : x = Int64.ofInt (sx_ev σ a) := hx
  unfold sx_lsh at h
  split at h
  · rename_i b h1
    cases h
    have hy : y = Int32.ofInt (sx_ev σ (sx_c b)) := hy
    rw [sx_ev_c] at hy
    show _ = Int64.ofInt (sx_ev σ (sx_c _))
    rw [sx_ev_c, Int64.ofInt_toInt, hx, hy, sx_cev h1]
  · cases h
def sx_icc (f : Int32 → Int32 → Int32) (x y : sx_N) : Option sx_N := match x, y with
  | .inl (a, []), .inl (b, []) => some (.inl (sx_c (f (Int32.ofInt a) (Int32.ofInt b)).toInt))
  | _, _ => none
theorem sx_icc_ok {σ : Nat → Int} {f : Int32 → Int32 → Int32} {v w u : sx_N} {x y : Int32} (h : sx_icc f v w = some u) (hx : sx_RN σ v x) (hy : sx_RN σ w y) : sx_RN σ u (f x y) := by
  unfold sx_icc at h
  split at h
  · rename_i a b
    cases h
    have hx : x = Int32.ofInt (sx_ev σ (sx_c a)) := hx
    have hy : y = Int32.ofInt (sx_ev σ (sx_c b)) := hy
    rw [sx_ev_c] at hx hy
    show _ = Int32.ofInt (sx_ev σ (sx_c _))
    rw [sx_ev_c, Int32.ofInt_toInt, hx, hy]
  · cases h
def sx_lcmp (B : sx_Bs) (a b : sx_I) : Option sx_N := bif sx_in64 B a && sx_in64 B b then (match sx_iv B (sx_sub a b) with
  | none => none
  | some d => bif sx_le 1 d.1 then some (.inl (sx_c 1)) else bif sx_le d.2 (-1) then some (.inl (sx_c (-1))) else bif sx_eq d.1 0 && sx_eq d.2 0 then some (.inl (sx_c 0)) else some (.inr (bif sx_le 0 d.1 then 0 else -1, bif sx_le d.2 0 then 0 else 1))) else none
theorem sx_lcmp_ok {σ : Nat → Int} {B : sx_Bs} (hB : sx_okB σ B) {a b : sx_I} {u : sx_N} {x y : Int64} (h : sx_lcmp B a b = some u) (hx : sx_RL σ a x) (hy : sx_RL σ b y) : sx_RN σ u (lg_cmp x y) := by
  have hx : x = Int64.ofInt (sx_ev σ a) := hx
  have hy : y = Int64.ofInt (sx_ev σ b) := hy
  unfold sx_lcmp at h
  cases h1 : (sx_in64 B a && sx_in64 B b) with
  | false => rw [h1] at h; cases h
  | true =>
    rw [h1] at h
    rw [Bool.and_eq_true] at h1
    obtain ⟨a1, a2⟩ := sx_in_ok hB h1.1
    obtain ⟨b1, b2⟩ := sx_in_ok hB h1.2
    have tx : x.toInt = sx_ev σ a := by rw [hx]; exact Int64.toInt_ofInt_of_le (by omega) (by omega)
    have ty : y.toInt = sx_ev σ b := by rw [hy]; exact Int64.toInt_ofInt_of_le (by omega) (by omega)
    cases h2 : sx_iv B (sx_sub a b) with
    | none => rw [h2] at h; cases h
    | some d =>
      rw [h2] at h
      obtain ⟨d1, d2⟩ := sx_iv_ok hB h2
      rw [sx_sub_ev] at d1 d2
      have r1 : ∀ n : Int, sx_RN σ (.inl (sx_c n)) (Int32.ofInt n) := fun n => by show _ = Int32.ofInt (sx_ev σ (sx_c n)); rw [sx_ev_c]
      unfold lg_cmp
      cases h3 : sx_le 1 d.1 with
      | true =>
        simp only [h3] at h
        cases h
        rw [sx_le_iff] at h3
        rw [if_pos (show x > y from Int64.lt_iff_toInt_lt.mpr (by rw [tx, ty]; omega))]
        exact r1 1
      | false =>
        simp only [h3] at h
        cases h4 : sx_le d.2 (-1) with
        | true =>
          simp only [h4] at h
          cases h
          rw [sx_le_iff] at h4
          rw [if_neg (show ¬ x > y from fun q => by have := Int64.lt_iff_toInt_lt.mp q; rw [tx, ty] at this; omega), if_neg (fun q => by have := congrArg Int64.toInt q; rw [tx, ty] at this; omega)]
          exact r1 (-1)
        | false =>
          simp only [h4] at h
          cases h5 : (sx_eq d.1 0 && sx_eq d.2 0) with
          | false =>
            simp only [h5] at h
            cases h
            have lo : ∀ i : Int, (i = 0 ∨ i = 1 ∨ (i = -1 ∧ d.1 ≤ -1)) → (bif sx_le 0 d.1 then (0 : Int) else -1) ≤ i := fun i hi => by
              cases h6 : sx_le 0 d.1 with
              | true => rw [sx_le_iff] at h6; show (0 : Int) ≤ i; omega
              | false => show (-1 : Int) ≤ i; omega
            have hi : ∀ i : Int, (i = 0 ∨ i = -1 ∨ (i = 1 ∧ 1 ≤ d.2)) → i ≤ (bif sx_le d.2 0 then (0 : Int) else 1) := fun i hi => by
              cases h6 : sx_le d.2 0 with
              | true => rw [sx_le_iff] at h6; show i ≤ (0 : Int); omega
              | false => show i ≤ (1 : Int); omega
            by_cases q1 : x > y
            · rw [if_pos q1]
              have q2 := Int64.lt_iff_toInt_lt.mp q1
              rw [tx, ty] at q2
              exact ⟨1, lo 1 (Or.inr (Or.inl rfl)), hi 1 (Or.inr (Or.inr ⟨rfl, by omega⟩)), rfl⟩
            · rw [if_neg q1]
              by_cases q2 : x = y
              · rw [if_pos q2]
                exact ⟨0, lo 0 (Or.inl rfl), hi 0 (Or.inl rfl), rfl⟩
              · rw [if_neg q2]
                have q3 : ¬ sx_ev σ a > sx_ev σ b := fun q => q1 (Int64.lt_iff_toInt_lt.mpr (by rw [tx, ty]; omega))
                have q4 : ¬ sx_ev σ a = sx_ev σ b := fun q => q2 (Int64.toInt_inj.mp (by rw [tx, ty]; exact q))
                exact ⟨-1, lo (-1) (Or.inr (Or.inr ⟨rfl, by omega⟩)), hi (-1) (Or.inr (Or.inl rfl)), rfl⟩
          | true =>
            simp only [h5] at h
            cases h
            rw [Bool.and_eq_true, sx_eq_iff, sx_eq_iff] at h5
            rw [if_neg (show ¬ x > y from fun q => by have := Int64.lt_iff_toInt_lt.mp q; rw [tx, ty] at this; omega), if_pos (Int64.toInt_inj.mp (by rw [tx, ty]; omega))]
            exact r1 0
def sx_ni2l (B : sx_Bs) (x : sx_N) : Option sx_I := match x with
  | .inl a => bif sx_in32 B a then some a else none
  | .inr _ => none
theorem sx_ni2l_ok {σ : Nat → Int} {B : sx_Bs} (hB : sx_okB σ B) {v : sx_N} {u : sx_I} {x : Int32} (h : sx_ni2l B v = some u) (hx : sx_RN σ v x) : sx_RL σ u x.toInt64 := by
  cases v with
  | inr r => cases h
  | inl a =>
    unfold sx_ni2l at h
    cases h1 : sx_in32 B a with
    | false => simp only [h1] at h; cases h
    | true =>
      simp only [h1] at h
      cases h
      obtain ⟨a1, a2⟩ := sx_in_ok hB h1
      have hx : x = Int32.ofInt (sx_ev σ u) := hx
      show _ = Int64.ofInt _
      rw [hx, Int32.toInt64_ofInt (by rw [Int32.toInt_minValue]; omega) (by rw [Int32.toInt_maxValue]; omega)]
theorem sx_l2i_ok {σ : Nat → Int} {a : sx_I} {x : Int64} (hx : sx_RL σ a x) : sx_RN σ (.inl (sx_nm sx_m32 a)) x.toInt32 := by
  have hx : x = Int64.ofInt (sx_ev σ a) := hx
  show _ = Int32.ofInt _
  rw [sx_nm32, hx, Int64.toInt32_ofInt]
