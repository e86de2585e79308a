/-! the machine's ints with unknowns: c + sum, or any between two numbers -/
abbrev sx_N : Type := sx_I ⊕ (Int × Int)
def sx_RN (σ : Nat → Int) (v : sx_N) (x : Int32) : Prop := match v with
  | .inl e => x = Int32.ofInt (sx_ev σ e)
  | .inr r => ∃ i : Int, r.1 ≤ i ∧ i ≤ r.2 ∧ x = Int32.ofInt i
abbrev sx_full : sx_N := .inr (-2147483648, 2147483647)
theorem sx_full_ok (σ : Nat → Int) (x : Int32) : sx_RN σ sx_full x := ⟨x.toInt, by have := Int32.le_toInt x; show (-2147483648 : Int) ≤ _; omega, by have := Int32.toInt_lt x; show _ ≤ (2147483647 : Int); omega, (Int32.ofInt_toInt x).symm⟩
def sx_rn (B : sx_Bs) (v : sx_N) : Option (Int × Int) := match v with
  | .inl e => sx_iv B e
  | .inr r => some r
theorem sx_rn_ok {σ : Nat → Int} {B : sx_Bs} (hB : sx_okB σ B) {v : sx_N} {z : Int × Int} {x : Int32} (h : sx_rn B v = some z) (hx : sx_RN σ v x) : ∃ i : Int, z.1 ≤ i ∧ i ≤ z.2 ∧ x = Int32.ofInt i := by
  cases v with
  | inl e => exact ⟨_, (sx_iv_ok hB h).1, (sx_iv_ok hB h).2, hx⟩
  | inr r => cases h; exact hx
/-- between two numbers, which are numbers of the machine -/
def sx_r32 (B : sx_Bs) (v : sx_N) : Option (Int × Int) := match sx_rn B v with
  | none => none
  | some z => bif sx_le (-2147483648) z.1 && sx_le z.2 2147483647 then some z else none
theorem sx_r32_ok {σ : Nat → Int} {B : sx_Bs} (hB : sx_okB σ B) {v : sx_N} {z : Int × Int} {x : Int32} (h : sx_r32 B v = some z) (hx : sx_RN σ v x) : ∃ i : Int, z.1 ≤ i ∧ i ≤ z.2 ∧ x = Int32.ofInt i ∧ -2147483648 ≤ i ∧ i ≤ 2147483647 := by
  unfold sx_r32 at h
  cases h1 : sx_rn B v with
  | none => rw [h1] at h; cases h
  | some y =>
    rw [h1] at h
    cases h2 : (sx_le (-2147483648) y.1 && sx_le y.2 2147483647) with
    | false => simp only [h2] at h; cases h
    | true =>
      simp only [h2] at h
      cases h
      rw [Bool.and_eq_true, sx_le_iff, sx_le_iff] at h2
      obtain ⟨i, a1, a2, a3⟩ := sx_rn_ok hB h1 hx
      exact ⟨i, a1, a2, a3, by omega, by omega⟩
def sx_nadd (B : sx_Bs) (x y : sx_N) : Option sx_N := match x, y with
  | .inl a, .inl b => some (.inl (sx_nm sx_m32 (sx_add a b)))
  | x, y => match sx_rn B x, sx_rn B y with
    | some p, some q => some (.inr (p.1 + q.1, p.2 + q.2))
    | _, _ => none
theorem sx_nadd_ok {σ : Nat → Int} {B : sx_Bs} (hB : sx_okB σ B) {v w u : sx_N} {x y : Int32} (h : sx_nadd B v w = some u) (hx : sx_RN σ v x) (hy : sx_RN σ w y) : sx_RN σ u (x + y) := by
  unfold sx_nadd at h
  split at h
  · cases h
    show _ = Int32.ofInt _
    rw [sx_nm32, sx_add_ev, Int32.ofInt_add, ← hx, ← hy]
  · split at h
    · rename_i p q h1 h2
      cases h
      obtain ⟨i, a1, a2, a3⟩ := sx_rn_ok hB h1 hx
      obtain ⟨j, b1, b2, b3⟩ := sx_rn_ok hB h2 hy
      exact ⟨i + j, by show p.1 + q.1 ≤ _; omega, by show _ ≤ p.2 + q.2; omega, by rw [Int32.ofInt_add, a3, b3]⟩
    · cases h
def sx_nsub (B : sx_Bs) (x y : sx_N) : Option sx_N := match x, y with
  | .inl a, .inl b => some (.inl (sx_nm sx_m32 (sx_sub a b)))
  | x, y => match sx_rn B x, sx_rn B y with
    | some p, some q => some (.inr (p.1 - q.2, p.2 - q.1))
    | _, _ => none
theorem sx_nsub_ok {σ : Nat → Int} {B : sx_Bs} (hB : sx_okB σ B) {v w u : sx_N} {x y : Int32} (h : sx_nsub B v w = some u) (hx : sx_RN σ v x) (hy : sx_RN σ w y) : sx_RN σ u (x - y) := by
  unfold sx_nsub at h
  split at h
  · cases h
    show _ = Int32.ofInt _
    rw [sx_nm32, sx_sub_ev, Int32.ofInt_sub, ← hx, ← hy]
  · split at h
    · rename_i p q h1 h2
      cases h
      obtain ⟨i, a1, a2, a3⟩ := sx_rn_ok hB h1 hx
      obtain ⟨j, b1, b2, b3⟩ := sx_rn_ok hB h2 hy
      exact ⟨i - j, by show p.1 - q.2 ≤ _; omega, by show _ ≤ p.2 - q.1; omega, by rw [Int32.ofInt_sub, a3, b3]⟩
    · cases h
def sx_nneg (x : sx_N) : Option sx_N := match x with
  | .inl a => some (.inl (sx_nm sx_m32 (sx_mul (-1) a)))
  | .inr r => some (.inr (-r.2, -r.1))
theorem sx_nneg_ok {σ : Nat → Int} {v u : sx_N} {x : Int32} (h : sx_nneg v = some u) (hx : sx_RN σ v x) : sx_RN σ u (-x) := by
  cases v with
  | inl a =>
    cases h
    show _ = Int32.ofInt _
    rw [sx_nm32, sx_mul_ev, show (-1 : Int) * sx_ev σ a = -sx_ev σ a by omega, Int32.ofInt_neg, ← hx]
  | inr r =>
    cases h
    obtain ⟨i, a1, a2, a3⟩ := hx
    exact ⟨-i, by show -r.2 ≤ _; omega, by show _ ≤ -r.1; omega, by rw [Int32.ofInt_neg, a3]⟩
def sx_nmul (x y : sx_N) : Option sx_N := match x, y with
  | .inl (a, []), .inl b => some (.inl (sx_nm sx_m32 (sx_mul a b)))
  | .inl b, .inl (a, []) => some (.inl (sx_nm sx_m32 (sx_mul a b)))
  | _, _ => none
theorem sx_nmul_ok {σ : Nat → Int} {v w u : sx_N} {x y : Int32} (h : sx_nmul v w = some u) (hx : sx_RN σ v x) (hy : sx_RN σ w y) : sx_RN σ u (x * y) := by
  unfold sx_nmul at h
  split at h
  · rename_i a b
    cases h
    have hx : x = Int32.ofInt (sx_ev σ (sx_c a)) := hx
    rw [sx_ev_c] at hx
    show _ = Int32.ofInt _
    rw [sx_nm32, sx_mul_ev, Int32.ofInt_mul, ← hx, ← hy]
  · rename_i b a _
    cases h
    have hy : y = Int32.ofInt (sx_ev σ (sx_c a)) := hy
    rw [sx_ev_c] at hy
    show _ = Int32.ofInt _
    rw [sx_nm32, sx_mul_ev, Int32.ofInt_mul, ← hx, ← hy, Int32.mul_comm]
  · cases h
/-! bits -/
theorem sx_ofN {x : Int32} {i : Int} (h : (x.toBitVec.toNat : Int) = i % 4294967296) : x = Int32.ofInt i := by
  apply Int32.toBitVec.inj
  apply BitVec.eq_of_toNat_eq
  rw [Int32.toBitVec_ofInt, BitVec.toNat_ofInt]
  have e : ((2 : Nat) ^ 32 : Nat) = (4294967296 : Nat) := by decide
  rw [e]
  show _ = (i % (4294967296 : Int)).toNat
  omega
theorem sx_toN (i : Int) : ((Int32.ofInt i).toBitVec.toNat : Int) = i % 4294967296 := by
  rw [Int32.toBitVec_ofInt, BitVec.toNat_ofInt]
  have e : ((2 : Nat) ^ 32 : Nat) = (4294967296 : Nat) := by decide
  rw [e]
  show ((i % (4294967296 : Int)).toNat : Int) = _
  omega
theorem sx_and32 (i : Int) (k : Nat) (hk : k ≤ 31) {m : Int32} (hm : m.toBitVec.toNat = 2 ^ k - 1) : Int32.ofInt i &&& m = Int32.ofInt (i % ((2 ^ k : Nat) : Int)) := by
  rw [pk_and _ k hm]
  have h1 := sx_toN i
  have h2 : (2 ^ k : Nat) ∣ 4294967296 := by
    have : (4294967296 : Nat) = 2 ^ k * 2 ^ (32 - k) := by rw [← Nat.pow_add, show k + (32 - k) = 32 by omega]
    exact ⟨_, this⟩
  show Int32.ofNat _ = _
  rw [← Int32.ofInt_eq_ofNat]
  congr 1
  rw [Int.natCast_emod, h1]
  exact Int.emod_emod_of_dvd i (Int.natCast_dvd_natCast.mpr h2)
/-- the bits of a mask of ones -/
def sx_mk : Int → Option Nat
  | .ofNat 1 => some 1
  | .ofNat 3 => some 2
  | .ofNat 7 => some 3
  | .ofNat 15 => some 4
  | .ofNat 31 => some 5
  | .ofNat 63 => some 6
  | .ofNat 255 => some 8
  | .ofNat 65535 => some 16
  | .ofNat 2147483647 => some 31
  | _ => none
theorem sx_mk_ok {b : Int} {k : Nat} (h : sx_mk b = some k) : k ≤ 31 ∧ (Int32.ofInt b).toBitVec.toNat = 2 ^ k - 1 ∧ b + 1 = ((2 ^ k : Nat) : Int) := by
  unfold sx_mk at h
  split at h <;> cases h <;> decide +kernel
theorem sx_andle (x : Int32) (b : Int) (h0 : 0 ≤ b) (h1 : b ≤ 2147483647) : ∃ i : Int, 0 ≤ i ∧ i ≤ b ∧ x &&& Int32.ofInt b = Int32.ofInt i := by
  have e := sx_toN b
  rw [Int.emod_eq_of_lt h0 (by omega)] at e
  have h2 : (x &&& Int32.ofInt b).toBitVec.toNat ≤ (Int32.ofInt b).toBitVec.toNat := by
    show (x.toBitVec &&& (Int32.ofInt b).toBitVec).toNat ≤ _
    rw [BitVec.toNat_and]
    exact Nat.and_le_right
  refine ⟨((x &&& Int32.ofInt b).toBitVec.toNat : Int), by omega, by omega, sx_ofN ?_⟩
  rw [Int.emod_eq_of_lt (by omega) (by omega)]
def sx_nand (B : sx_Bs) (x y : sx_N) : Option sx_N := match y with
  | .inl (b, []) => match x with
    | .inl (a, []) => some (.inl (sx_c (Int32.ofInt a &&& Int32.ofInt b).toInt))
    | .inl a => match sx_mk b with
      | none => bif sx_le 0 b && sx_le b 2147483647 then some (.inr (0, b)) else none
      | some _ => match sx_div B (b + 1) a with
        | some z => some (.inl z.2)
        | none => some (.inr (0, b))
    | .inr _ => bif sx_le 0 b && sx_le b 2147483647 then some (.inr (0, b)) else none
  | _ => none
theorem sx_nand_ok {σ : Nat → Int} {B : sx_Bs} (hB : sx_okB σ B) {v w u : sx_N} {x y : Int32} (h : sx_nand B v w = some u) (hx : sx_RN σ v x) (hy : sx_RN σ w y) : sx_RN σ u (x &&& y) := by
  have range : ∀ {b : Int}, y = Int32.ofInt b → (bif sx_le 0 b && sx_le b 2147483647 then some (.inr (0, b)) else none : Option sx_N) = some u → sx_RN σ u (x &&& y) := by
    intro b hy h
    cases h1 : (sx_le 0 b && sx_le b 2147483647) with
    | false => rw [h1] at h; cases h
    | true =>
      rw [h1] at h
      cases h
      rw [Bool.and_eq_true, sx_le_iff, sx_le_iff] at h1
      rw [hy]
      exact sx_andle x b h1.1 h1.2
  unfold sx_nand at h
  split at h
  · rename_i b
    have hy : y = Int32.ofInt (sx_ev σ (sx_c b)) := hy
    rw [sx_ev_c] at hy
    split at h
    · rename_i a
      cases h
      have hx : x = Int32.ofInt (sx_ev σ (sx_c a)) := hx
      rw [sx_ev_c] at hx
      show _ = Int32.ofInt (sx_ev σ (sx_c _))
      rw [sx_ev_c, Int32.ofInt_toInt, hx, hy]
    · rename_i a _
      split at h
      · exact range hy h
      · rename_i k hk
        obtain ⟨k1, k2, k3⟩ := sx_mk_ok hk
        split at h
        · rename_i z hz
          cases h
          obtain ⟨d1, d2, d3⟩ := sx_div_ok hB hz
          show _ = Int32.ofInt _
          have hx : x = Int32.ofInt (sx_ev σ a) := hx
          rw [d2, hx, hy, sx_and32 _ k k1 k2, k3]
        · cases h
          have hp : (0 : Int) < ((2 ^ k : Nat) : Int) := by exact_mod_cast Nat.two_pow_pos k
          have hq : ((2 ^ k : Nat) : Int) ≤ ((2 ^ 31 : Nat) : Int) := by exact_mod_cast Nat.pow_le_pow_right (by decide) k1
          have e31 : ((2 ^ 31 : Nat) : Int) = 2147483648 := by decide
          rw [hy]
          exact sx_andle x b (by omega) (by omega)
    · exact range hy h
  · cases h
theorem sx_shk : ∀ c : Fin 32, ((Int32.ofInt (Int.ofNat c.val) &&& 31).toBitVec.smod 32).toNat = c.val := by decide +kernel
def sx_nshl (x y : sx_N) : Option sx_N := match x, y with
  | .inl a, .inl (.ofNat k, []) => bif Nat.blt k 32 then some (.inl (sx_nm sx_m32 (sx_mul ((2 ^ k : Nat) : Int) a))) else none
  | _, _ => none
theorem sx_nshl_ok {σ : Nat → Int} {v w u : sx_N} {x y : Int32} (h : sx_nshl v w = some u) (hx : sx_RN σ v x) (hy : sx_RN σ w y) : sx_RN σ u (x <<< (y &&& 31)) := by
  unfold sx_nshl at h
  split at h
  · rename_i a k
    have hy : y = Int32.ofInt (sx_ev σ (sx_c (Int.ofNat k))) := hy
    rw [sx_ev_c] at hy
    have hx : x = Int32.ofInt (sx_ev σ a) := hx
    cases h1 : Nat.blt k 32 with
    | false => rw [h1] at h; cases h
    | true =>
      rw [h1] at h
      cases h
      have hk : k < 32 := by have := Nat.le_of_ble_eq_true h1; omega
      show _ = Int32.ofInt _
      rw [sx_nm32, sx_mul_ev, hx, hy]
      apply sx_ofN
      rw [pk_shl _ _ k (sx_shk ⟨k, hk⟩), Int.natCast_emod, Int.natCast_mul, sx_toN]
      show (_ : Int) % ((2 ^ 32 : Nat) : Int) = _
      rw [show ((2 ^ 32 : Nat) : Int) = 4294967296 by decide, Int.mul_comm, Int.mul_emod, Int.emod_emod_of_dvd _ (Int.dvd_refl _), ← Int.mul_emod]
  · cases h
def sx_nshr (B : sx_Bs) (x y : sx_N) : Option sx_N := match x, y with
  | .inl a, .inl (.ofNat k, []) => bif Nat.blt k 32 && sx_in32 B a then (match sx_div B ((2 ^ k : Nat) : Int) a with
    | some z => some (.inl z.1)
    | none => none) else none
  | _, _ => none
theorem sx_nshr_ok {σ : Nat → Int} {B : sx_Bs} (hB : sx_okB σ B) {v w u : sx_N} {x y : Int32} (h : sx_nshr B v w = some u) (hx : sx_RN σ v x) (hy : sx_RN σ w y) : sx_RN σ u (x >>> (y &&& 31)) := by
  unfold sx_nshr at h
  split at h
  · rename_i a k
    have hy : y = Int32.ofInt (sx_ev σ (sx_c (Int.ofNat k))) := hy
    rw [sx_ev_c] at hy
    have hx : x = Int32.ofInt (sx_ev σ a) := hx
    cases h1 : (Nat.blt k 32 && sx_in32 B a) with
    | false => rw [h1] at h; cases h
    | true =>
      rw [h1] at h
      rw [Bool.and_eq_true] at h1
      obtain ⟨i1, i2⟩ := sx_in_ok hB h1.2
      have hk : k < 32 := by have := Nat.le_of_ble_eq_true h1.1; omega
      split at h
      · rename_i z hz
        cases h
        obtain ⟨d1, -, -⟩ := sx_div_ok hB hz
        show _ = Int32.ofInt _
        rw [d1, hx, hy]
        apply Int32.toInt_inj.mp
        have hp : (0 : Int) < ((2 ^ k : Nat) : Int) := by exact_mod_cast Nat.two_pow_pos k
        have q1 : -2147483648 ≤ sx_ev σ a / ((2 ^ k : Nat) : Int) := by
          rw [Int.le_ediv_iff_mul_le hp]
          have : (-2147483648 : Int) * ((2 ^ k : Nat) : Int) ≤ -2147483648 * 1 := Int.mul_le_mul_of_nonpos_left (by decide) (by omega)
          omega
        have q2 : sx_ev σ a / ((2 ^ k : Nat) : Int) ≤ 2147483647 := by
          apply Int.le_of_lt_add_one
          apply Int.ediv_lt_of_lt_mul hp
          have : (2147483647 + 1 : Int) * 1 ≤ (2147483647 + 1) * ((2 ^ k : Nat) : Int) := Int.mul_le_mul_of_nonneg_left (by omega) (by decide)
          omega
        rw [pk_shr _ _ k (sx_shk ⟨k, hk⟩), Int32.toInt_ofInt_of_le (by omega) (by omega), Int32.toInt_ofInt_of_le (by omega) (by omega), Int.shiftRight_eq_div_pow]
      · cases h
  · cases h
def sx_nor (B : sx_Bs) (x y : sx_N) : Option sx_N := match x, y with
  | .inl (a, []), .inl (b, []) => some (.inl (sx_c (Int32.ofInt a ||| Int32.ofInt b).toInt))
  | .inl a, .inl b => match sx_div B 256 a with
    | none => none
    | some z => bif sx_eq z.2.1 0 && sx_in B z.2 0 0 && sx_in B b 0 255 then some (.inl (sx_nm sx_m32 (sx_add a b))) else none
  | _, _ => none
theorem sx_nor_ok {σ : Nat → Int} {B : sx_Bs} (hB : sx_okB σ B) {v w u : sx_N} {x y : Int32} (h : sx_nor B v w = some u) (hx : sx_RN σ v x) (hy : sx_RN σ w y) : sx_RN σ u (x ||| y) := by
  unfold sx_nor at h
  split at h
  · rename_i a b
    cases h
    have hx : x = Int32.ofInt (sx_ev σ (sx_c a)) := hx
    have hy : y = Int32.ofInt (sx_ev σ (sx_c b)) := hy
    rw [sx_ev_c] at hx hy
    show _ = Int32.ofInt (sx_ev σ (sx_c _))
    rw [sx_ev_c, Int32.ofInt_toInt, hx, hy]
  · rename_i a b _
    have hx : x = Int32.ofInt (sx_ev σ a) := hx
    have hy : y = Int32.ofInt (sx_ev σ b) := hy
    split at h
    · cases h
    · rename_i z hz
      obtain ⟨d1, d2, d3⟩ := sx_div_ok hB hz
      cases h1 : (sx_eq z.2.1 0 && sx_in B z.2 0 0 && sx_in B b 0 255) with
      | false => rw [h1] at h; cases h
      | true =>
        rw [h1] at h
        cases h
        rw [Bool.and_eq_true, Bool.and_eq_true] at h1
        obtain ⟨e1, e2⟩ := sx_in_ok hB h1.1.2
        obtain ⟨f1, f2⟩ := sx_in_ok hB h1.2
        show _ = Int32.ofInt _
        rw [sx_nm32, sx_add_ev, hx, hy]
        apply sx_ofN
        have t1 := sx_toN (sx_ev σ a)
        have t2 := sx_toN (sx_ev σ b)
        show (((Int32.ofInt (sx_ev σ a)).toBitVec ||| (Int32.ofInt (sx_ev σ b)).toBitVec).toNat : Int) = _
        rw [BitVec.toNat_or]
        generalize (Int32.ofInt (sx_ev σ a)).toBitVec.toNat = p at t1 ⊢
        generalize (Int32.ofInt (sx_ev σ b)).toBitVec.toNat = q at t2 ⊢
        have hq : q < 2 ^ 8 := by show q < 256; omega
        have hp : p = 2 ^ 8 * (p / 256) := by show p = 256 * (p / 256); omega
        rw [hp, ← Nat.two_pow_add_eq_or_of_lt hq (p / 256)]
        show ((256 * (p / 256) + q : Nat) : Int) = _
        omega
  · cases h
/-! division by a number -/
def sx_ndiv (B : sx_Bs) (x y : sx_N) : Option sx_N := match x, y with
  | .inl a, .inl (c, []) => match a.2 with
    | [] => bif sx_le (-2147483647) a.1 && sx_le a.1 2147483647 && sx_le 1 c && sx_le c 2147483647 then some (.inl (sx_c (Int.tdiv a.1 c))) else none
    | _ => bif sx_in B a 0 2147483647 && sx_le c 2147483647 then (match sx_div B c a with
      | some z => some (.inl z.1)
      | none => none) else none
  | _, _ => none
theorem sx_ndiv_ok {σ : Nat → Int} {B : sx_Bs} (hB : sx_okB σ B) {v w u : sx_N} {x y : Int32} (h : sx_ndiv B v w = some u) (hx : sx_RN σ v x) (hy : sx_RN σ w y) : sx_RN σ u (x / y) ∧ ¬ y = 0 := by
  have nz : ∀ {c : Int}, 1 ≤ c → c ≤ 2147483647 → ¬ Int32.ofInt c = 0 := fun {c} h1 h2 q => by
    have := congrArg Int32.toInt q
    rw [Int32.toInt_ofInt_of_le (by omega) (by omega), Int32.toInt_zero] at this
    omega
  unfold sx_ndiv at h
  split at h
  · rename_i a c
    have hy : y = Int32.ofInt (sx_ev σ (sx_c c)) := hy
    rw [sx_ev_c] at hy
    have hx : x = Int32.ofInt (sx_ev σ a) := hx
    split at h
    · rename_i h0
      cases h1 : (sx_le (-2147483647) a.1 && sx_le a.1 2147483647 && sx_le 1 c && sx_le c 2147483647) with
      | false => rw [h1] at h; cases h
      | true =>
        rw [h1] at h
        cases h
        rw [Bool.and_eq_true, Bool.and_eq_true, Bool.and_eq_true, sx_le_iff, sx_le_iff, sx_le_iff, sx_le_iff] at h1
        obtain ⟨⟨⟨l1, l2⟩, l3⟩, l4⟩ := h1
        have ea : sx_ev σ a = a.1 := by show a.1 + sx_evl σ a.2 = a.1; rw [h0]; exact Int.add_zero _
        refine ⟨?_, by rw [hy]; exact nz l3 l4⟩
        show _ = Int32.ofInt (sx_ev σ (sx_c _))
        rw [sx_ev_c, hx, hy, ea, Int32.ofInt_tdiv (by rw [Int32.toInt_minValue]; omega) (by rw [Int32.toInt_maxValue]; omega) (by rw [Int32.toInt_minValue]; omega) (by rw [Int32.toInt_maxValue]; omega)]
    · cases h1 : (sx_in B a 0 2147483647 && sx_le c 2147483647) with
      | false => rw [h1] at h; cases h
      | true =>
        rw [h1] at h
        rw [Bool.and_eq_true, sx_le_iff] at h1
        obtain ⟨i1, i2⟩ := sx_in_ok hB h1.1
        split at h
        · rename_i z hz
          cases h
          obtain ⟨d1, -, d3⟩ := sx_div_ok hB hz
          refine ⟨?_, by rw [hy]; exact nz d3 h1.2⟩
          show _ = Int32.ofInt _
          rw [d1, ← Int.tdiv_eq_ediv_of_nonneg i1, hx, hy, Int32.ofInt_tdiv (by rw [Int32.toInt_minValue]; omega) (by rw [Int32.toInt_maxValue]; omega) (by rw [Int32.toInt_minValue]; omega) (by rw [Int32.toInt_maxValue]; omega)]
        · cases h
  · cases h
def sx_nrem (B : sx_Bs) (x y : sx_N) : Option sx_N := match y with
  | .inl (c, []) => bif sx_le 1 c && sx_le c 2147483647 then (match x with
    | .inl a => match a.2 with
      | [] => bif sx_le (-2147483648) a.1 && sx_le a.1 2147483647 then some (.inl (sx_c (Int.tmod a.1 c))) else none
      | _ => bif sx_in B a 0 2147483647 then (match sx_div B c a with
        | some z => some (.inl z.2)
        | none => some (.inr (0, c - 1))) else none
    | .inr r => bif sx_le 0 r.1 && sx_le r.2 2147483647 then some (.inr (0, c - 1)) else none) else none
  | _ => none
theorem sx_nrem_ok {σ : Nat → Int} {B : sx_Bs} (hB : sx_okB σ B) {v w u : sx_N} {x y : Int32} (h : sx_nrem B v w = some u) (hx : sx_RN σ v x) (hy : sx_RN σ w y) : sx_RN σ u (x - x / y * y) ∧ ¬ y = 0 := by
  unfold sx_nrem at h
  split at h
  · rename_i c
    have hy : y = Int32.ofInt (sx_ev σ (sx_c c)) := hy
    rw [sx_ev_c] at hy
    cases h1 : (sx_le 1 c && sx_le c 2147483647) with
    | false => rw [h1] at h; cases h
    | true =>
      rw [h1] at h
      rw [Bool.and_eq_true, sx_le_iff, sx_le_iff] at h1
      have nz : ¬ y = 0 := fun q => by
        rw [hy] at q
        have := congrArg Int32.toInt q
        rw [Int32.toInt_ofInt_of_le (by omega) (by omega), Int32.toInt_zero] at this
        omega
      have tm : ∀ {i : Int}, -2147483648 ≤ i → i ≤ 2147483647 → Int32.ofInt i - Int32.ofInt i / y * y = Int32.ofInt (Int.tmod i c) := fun {i} q1 q2 => by
        rw [hy, ← Int32.ofInt_tdiv (by rw [Int32.toInt_minValue]; omega) (by rw [Int32.toInt_maxValue]; omega) (by rw [Int32.toInt_minValue]; omega) (by rw [Int32.toInt_maxValue]; omega), ← Int32.ofInt_mul, ← Int32.ofInt_sub]
        congr 1
        have q3 := Int.tmod_add_mul_tdiv i c
        rw [Int.mul_comm] at q3
        omega
      have rng : ∀ {i : Int}, 0 ≤ i → i ≤ 2147483647 → ∃ j : Int, 0 ≤ j ∧ j ≤ c - 1 ∧ Int32.ofInt i - Int32.ofInt i / y * y = Int32.ofInt j := fun {i} q1 q2 => by
        refine ⟨i % c, Int.emod_nonneg _ (by omega), by have := Int.emod_lt_of_pos i (show (0 : Int) < c by omega); omega, ?_⟩
        rw [tm (by omega) q2, Int.tmod_eq_emod_of_nonneg q1]
      refine ⟨?_, nz⟩
      split at h
      · rename_i a
        have hx : x = Int32.ofInt (sx_ev σ a) := hx
        split at h
        · rename_i h0
          cases h2 : (sx_le (-2147483648) a.1 && sx_le a.1 2147483647) with
          | false => rw [h2] at h; cases h
          | true =>
            rw [h2] at h
            cases h
            rw [Bool.and_eq_true, sx_le_iff, sx_le_iff] at h2
            have ea : sx_ev σ a = a.1 := by show a.1 + sx_evl σ a.2 = a.1; rw [h0]; exact Int.add_zero _
            show _ = Int32.ofInt (sx_ev σ (sx_c _))
            rw [sx_ev_c, hx, ea, tm h2.1 h2.2]
        · cases h2 : sx_in B a 0 2147483647 with
          | false => rw [h2] at h; cases h
          | true =>
            rw [h2] at h
            obtain ⟨i1, i2⟩ := sx_in_ok hB h2
            split at h
            · rename_i z hz
              cases h
              obtain ⟨-, d2, -⟩ := sx_div_ok hB hz
              show _ = Int32.ofInt _
              rw [d2, hx, tm (by omega) i2, Int.tmod_eq_emod_of_nonneg i1]
            · cases h
              rw [hx]
              exact rng i1 i2
      · rename_i r
        cases h2 : (sx_le 0 r.1 && sx_le r.2 2147483647) with
        | false => rw [h2] at h; cases h
        | true =>
          rw [h2] at h
          cases h
          rw [Bool.and_eq_true, sx_le_iff, sx_le_iff] at h2
          obtain ⟨i, a1, a2, a3⟩ := hx
          rw [a3]
          exact rng (by omega) (by omega)
  · cases h
