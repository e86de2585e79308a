/-! shifts by 63: the sign -/
theorem sx_sar63 {x : Int64} (y : Int32) (hy : y = Int32.ofInt 63) : (x >>> (y.toInt64 &&& 63)).toInt = x.toInt / 9223372036854775808 := by
  subst hy
  rw [show ((Int32.ofInt 63).toInt64 &&& 63 : Int64) = 63 by decide, ← Int64.toInt_toBitVec, Int64.toBitVec_shiftRight, show ((63 : Int64).toBitVec.smod 64 : BitVec 64) = 63#64 by decide, BitVec.sshiftRight_eq', BitVec.toInt_sshiftRight, Int64.toInt_toBitVec, show (63#64 : BitVec 64).toNat = 63 by decide, Int.shiftRight_eq_div_pow]
  rfl
theorem sx_shr63 {x : Int64} (y : Int32) (hy : y = Int32.ofInt 63) : (x.toUInt64 >>> (y.toInt64.toUInt64 &&& Int64.toUInt64 63)).toInt64 = if 0 ≤ x.toInt then 0 else 1 := by
  subst hy
  have e : (x.toUInt64 >>> ((Int32.ofInt 63).toInt64.toUInt64 &&& Int64.toUInt64 63)).toNat = x.toBitVec.toNat / 9223372036854775808 := by
    rw [show ((Int32.ofInt 63).toInt64.toUInt64 &&& Int64.toUInt64 63 : UInt64) = 63 by decide, UInt64.toNat_shiftRight, show (63 : UInt64).toNat % 64 = 63 by decide, Nat.shiftRight_eq_div_pow]
    rfl
  have hlt := x.toBitVec.isLt
  have ht : x.toInt = if 2 * x.toBitVec.toNat < 18446744073709551616 then (x.toBitVec.toNat : Int) else (x.toBitVec.toNat : Int) - 18446744073709551616 := by
    rw [← Int64.toInt_toBitVec, BitVec.toInt_eq_toNat_cond]
    rfl
  by_cases h : 0 ≤ x.toInt
  · rw [if_pos h]
    have : (x.toUInt64 >>> ((Int32.ofInt 63).toInt64.toUInt64 &&& Int64.toUInt64 63)) = 0 := UInt64.toNat_inj.mp (by rw [e]; show _ = 0; split at ht <;> omega)
    rw [this]
    rfl
  · rw [if_neg h]
    have : (x.toUInt64 >>> ((Int32.ofInt 63).toInt64.toUInt64 &&& Int64.toUInt64 63)) = 1 := UInt64.toNat_inj.mp (by rw [e]; show _ = 1; split at ht <;> omega)
    rw [this]
    rfl
noncomputable def sx_prS (B : sx_Bs) (x : sx_R) (c : sx_S) : Option sx_S := match x.2.1, c.2.2.1 with
  | .lshr, .inl (.inl (b, [])) :: .inr (.inl e) :: S => bif sx_eq b 63 && sx_in B e 0 9223372036854775807 then some (c.1 + 1, c.2.1, .inr (.inl (sx_c 0)) :: S, c.2.2.2.1, c.2.2.2.2.1, c.2.2.2.2.2.1, c.2.2.2.2.2.2)
      else bif sx_eq b 63 && sx_in B e (-9223372036854775808) (-1) then some (c.1 + 1, c.2.1, .inr (.inl (sx_c (-1))) :: S, c.2.2.2.1, c.2.2.2.2.1, c.2.2.2.2.2.1, c.2.2.2.2.2.2) else none
  | .lushr, .inl (.inl (b, [])) :: .inr (.inl e) :: S => bif sx_eq b 63 && sx_in B e 0 9223372036854775807 then some (c.1 + 1, c.2.1, .inr (.inl (sx_c 0)) :: S, c.2.2.2.1, c.2.2.2.2.1, c.2.2.2.2.2.1, c.2.2.2.2.2.2)
      else bif sx_eq b 63 && sx_in B e (-9223372036854775808) (-1) then some (c.1 + 1, c.2.1, .inr (.inl (sx_c 1)) :: S, c.2.2.2.1, c.2.2.2.2.1, c.2.2.2.2.2.1, c.2.2.2.2.2.2) else none
  | _, _ => none
/-- what a row does that takes v's place -/
theorem sx_pr_row {B : sx_Bs} {lo fr r nx k n pc0 len : Nat} {M : sx_M} {L : List (Nat × sx_V)} {S S1 : List sx_V} {w : sx_W} {c1 : sx_S} (h9 : some (r + 1, L, S1, w, nx, k, n) = some c1) (hr3 : sx_rpc M (r + 1) = pc0 + len)
    (rule : ∀ {p : Program} {l : Launch} {e : Env} {R : Room} {s : State} {m : MethodId} {args : Array Value} {below : List Frame} {meth : Method} {c : Code} {Q : State → Prop} {D : va_G} {cA : Nat → ClassId} {z : Nat → Nat} {σ : Nat → Int} {Fr : va_W} {A : Nat → Prop} {ρ : Nat → Option Nat}, fr ≤ R.frames → lo ≤ R.locals → k ≤ R.cells → n ≤ R.slots → sx_CX p s m args meth c D cA z σ B A wsL_law M.1.cls M.1.name M.2.1 M.2.2.1 → sx_KM p l e R s m args below meth c Q D cA z σ Fr A M.2.2.1 (pc0 + len) k n ρ L S1 w nx → sx_KM p l e R s m args below meth c Q D cA z σ Fr A M.2.2.1 pc0 k n ρ L S w nx) :
    (k ≤ c1.2.2.2.2.2.1 ∧ n ≤ c1.2.2.2.2.2.2) ∧
      ∀ (p : Program) (l : Launch) (e : Env) (R : Room) (s : State) (m : MethodId) (args : Array Value) (below : List Frame) (meth : Method) (c : Code) (Q : State → Prop) (D : va_G) (cA : Nat → ClassId) (z : Nat → Nat) (σ : Nat → Int) (Fr : va_W) (A : Nat → Prop) (ρ : Nat → Option Nat),
        fr ≤ R.frames → lo ≤ R.locals → c1.2.2.2.2.2.1 ≤ R.cells → c1.2.2.2.2.2.2 ≤ R.slots → sx_CX p s m args meth c D cA z σ B A wsL_law M.1.cls M.1.name M.2.1 M.2.2.1 →
        (∀ ρ', sx_ge ρ ρ' → sx_KM p l e R s m args below meth c Q D cA z σ Fr A M.2.2.1 (sx_rpc M c1.1) c1.2.2.2.2.2.1 c1.2.2.2.2.2.2 ρ' c1.2.1 c1.2.2.1 c1.2.2.2.1 c1.2.2.2.2.1) →
        sx_KM p l e R s m args below meth c Q D cA z σ Fr A M.2.2.1 pc0 k n ρ L S w nx := by
  cases h9
  refine ⟨⟨Nat.le_refl _, Nat.le_refl _⟩, fun p l e R s m args below meth c Q D cA z σ Fr A ρ hfr hlo hc hs C K => ?_⟩
  have K : sx_KM p l e R s m args below meth c Q D cA z σ Fr A M.2.2.1 (sx_rpc M (r + 1)) k n ρ L S1 w nx := K ρ (sx_ge_rf ρ)
  rw [hr3] at K
  exact rule hfr hlo hc hs C K
theorem sx_in64_ok {B : sx_Bs} {σ : Nat → Int} (hB : sx_okB σ B) {e9 : sx_I} {x : Int64} {lo hi : Int} (hx : sx_RL σ e9 x) (hin : sx_in B e9 lo hi = true) (h1 : -9223372036854775808 ≤ lo) (h2 : hi ≤ 9223372036854775807) : lo ≤ x.toInt ∧ x.toInt ≤ hi := by
  obtain ⟨a1, a2⟩ := sx_in_ok hB hin
  have hx : x = Int64.ofInt (sx_ev σ e9) := hx
  have : x.toInt = sx_ev σ e9 := by rw [hx]; exact Int64.toInt_ofInt_of_le (by omega) (by omega)
  omega
theorem sx_prS_ok (B : sx_Bs) : sx_PR1 B (fun _ _ _ x c => sx_prS B x c) := by
  intro fr lo M x c0 c1 h hok
  obtain ⟨pc0, ins, len, aux, cst⟩ := x
  obtain ⟨r, L, S, w, nx, k, n⟩ := c0
  replace h : sx_prS B (pc0, ins, len, aux, cst) (r, L, S, w, nx, k, n) = some c1 := h
  replace hok : sx_okR sx_pg sx_tbs M r (pc0, ins, len, aux, cst) = true := hok
  unfold sx_prS at h
  simp only at h
  split at h
  · rename_i b e9 S0
    obtain ⟨hd, hr3⟩ := sx_fallD (show (decide (decode M.2.1 pc0 = .ok (.lshr, len)) && sx_fall M r (pc0, .lshr, len, aux, cst)) = true from hok)
    have go : ∀ (v lo1 hi1 : Int), -9223372036854775808 ≤ lo1 → hi1 ≤ 9223372036854775807 → (sx_eq b 63 && sx_in B e9 lo1 hi1) = true → (∀ x : Int, lo1 ≤ x → x ≤ hi1 → x / 9223372036854775808 = v) → (Int64.ofInt v).toInt = v → some (r + 1, L, .inr (.inl (sx_c v)) :: S0, w, nx, k, n) = some c1 → _ := fun v lo1 hi1 b1 b2 hb hv hvv h9 => sx_pr_row (B := B) (fr := fr) (lo := lo) (S := .inl (.inl (b, [])) :: .inr (.inl e9) :: S0) h9 hr3 (fun {p l e R s m args below meth c Q D cA z σ Fr A ρ} hfr hlo hc hs C K => by
      rw [Bool.and_eq_true] at hb
      intro wl H locs hI hS ls lv st hl hL hSt
      obtain ⟨hx, hbb, hml, hts, hown, hK, hZ, hB, hA, hn⟩ := C
      obtain ⟨y1, r1, rfl, hy1, hSt1⟩ := hSt.int
      obtain ⟨x1, rest, rfl, hx1, hrest⟩ := hSt1.long
      have hy1 : y1 = Int32.ofInt (sx_ev σ (sx_c b)) := hy1
      rw [sx_ev_c, (sx_eq_iff _ _).mp hb.1] at hy1
      obtain ⟨c1, c2⟩ := sx_in64_ok hB hx1 hb.2 b1 b2
      exact lv_lshr hx hbb hd (v := Int64.ofInt v) (Int64.toInt_inj.mp ((sx_sar63 y1 hy1).trans ((hv _ c1 c2).trans hvv.symm))) (K wl H locs hI hS ls lv _ hl hL ⟨sx_RVl (sx_RLc v), hrest⟩))
    cases h1 : (sx_eq b 63 && sx_in B e9 0 9223372036854775807) with
    | true =>
      simp only [h1, cond_true] at h
      exact go 0 0 9223372036854775807 (by decide) (by decide) h1 (fun x a1 a2 => by omega) (by decide) h
    | false =>
      cases h3 : (sx_eq b 63 && sx_in B e9 (-9223372036854775808) (-1)) with
      | true =>
        simp only [h1, h3, cond_false, cond_true] at h
        exact go (-1) (-9223372036854775808) (-1) (by decide) (by decide) h3 (fun x a1 a2 => by omega) (by decide) h
      | false => simp only [h1, h3, cond_false] at h; cases h
  · rename_i b e9 S0
    obtain ⟨hd, hr3⟩ := sx_fallD (show (decide (decode M.2.1 pc0 = .ok (.lushr, len)) && sx_fall M r (pc0, .lushr, len, aux, cst)) = true from hok)
    have go : ∀ (v lo1 hi1 : Int), -9223372036854775808 ≤ lo1 → hi1 ≤ 9223372036854775807 → (sx_eq b 63 && sx_in B e9 lo1 hi1) = true → (∀ x : Int, lo1 ≤ x → x ≤ hi1 → (if 0 ≤ x then (0 : Int64) else 1) = Int64.ofInt v) → some (r + 1, L, .inr (.inl (sx_c v)) :: S0, w, nx, k, n) = some c1 → _ := fun v lo1 hi1 b1 b2 hb hv h9 => sx_pr_row (B := B) (fr := fr) (lo := lo) (S := .inl (.inl (b, [])) :: .inr (.inl e9) :: S0) h9 hr3 (fun {p l e R s m args below meth c Q D cA z σ Fr A ρ} hfr hlo hc hs C K => by
      rw [Bool.and_eq_true] at hb
      intro wl H locs hI hS ls lv st hl hL hSt
      obtain ⟨hx, hbb, hml, hts, hown, hK, hZ, hB, hA, hn⟩ := C
      obtain ⟨y1, r1, rfl, hy1, hSt1⟩ := hSt.int
      obtain ⟨x1, rest, rfl, hx1, hrest⟩ := hSt1.long
      have hy1 : y1 = Int32.ofInt (sx_ev σ (sx_c b)) := hy1
      rw [sx_ev_c, (sx_eq_iff _ _).mp hb.1] at hy1
      obtain ⟨c1, c2⟩ := sx_in64_ok hB hx1 hb.2 b1 b2
      exact lv_lushr hx hbb hd (v := Int64.ofInt v) ((sx_shr63 y1 hy1).trans (hv _ c1 c2)) (K wl H locs hI hS ls lv _ hl hL ⟨sx_RVl (sx_RLc v), hrest⟩))
    cases h1 : (sx_eq b 63 && sx_in B e9 0 9223372036854775807) with
    | true =>
      simp only [h1, cond_true] at h
      exact go 0 0 9223372036854775807 (by decide) (by decide) h1 (fun x a1 a2 => by rw [if_pos a1]; rfl) h
    | false =>
      cases h3 : (sx_eq b 63 && sx_in B e9 (-9223372036854775808) (-1)) with
      | true =>
        simp only [h1, h3, cond_false, cond_true] at h
        exact go 1 (-9223372036854775808) (-1) (by decide) (by decide) h3 (fun x a1 a2 => by rw [if_neg (by omega)]; rfl) h
      | false => simp only [h1, h3, cond_false] at h; cases h
  · cases h
/-! Math.abs of a long whose sign is known -/
noncomputable def sx_prB (B : sx_Bs) (fr lo t : Nat) (M : sx_M) (x : sx_R) (c : sx_S) : Option sx_S := match x.2.1 with
  | .invokestatic idx => (match c.2.2.1 with
    | .inr (.inl e) :: S => bif Nat.ble 1 fr && Nat.ble 21 lo && Nat.ble (sx_sl S) 8 && sx_has sx_tbs t (.methodLink M.1.cls idx Lib.MathLoose.abs_long.x) then
        (bif sx_in B e 0 9223372036854775807 then some (c.1 + 1, c.2.1, .inr (.inl e) :: S, c.2.2.2.1, c.2.2.2.2.1, c.2.2.2.2.2.1, c.2.2.2.2.2.2)
        else bif sx_in B e (-9223372036854775808) 0 then some (c.1 + 1, c.2.1, .inr (.inl (sx_lnm (sx_mul (-1) e))) :: S, c.2.2.2.1, c.2.2.2.2.1, c.2.2.2.2.2.1, c.2.2.2.2.2.2) else none) else none
    | _ => none)
  | _ => none
theorem sx_prB_ok (B : sx_Bs) (t : Nat) : sx_PR1 B (fun fr lo M x c => sx_prB B fr lo t M x c) := by
  intro fr lo M x c0 c1 h hok
  obtain ⟨pc0, ins, len, aux, cst⟩ := x
  obtain ⟨r, L, S, w, nx, k, n⟩ := c0
  replace h : sx_prB B fr lo t M (pc0, ins, len, aux, cst) (r, L, S, w, nx, k, n) = some c1 := h
  replace hok : sx_okR sx_pg sx_tbs M r (pc0, ins, len, aux, cst) = true := hok
  unfold sx_prB at h
  simp only at h
  split at h
  · rename_i idx
    obtain ⟨hd, hr3, -⟩ := sx_okinv rfl hok
    split at h
    · rename_i e9 S0
      cases hg : (Nat.ble 1 fr && Nat.ble 21 lo && Nat.ble (sx_sl S0) 8 && sx_has sx_tbs t (.methodLink M.1.cls idx Lib.MathLoose.abs_long.x)) with
      | false => rw [hg] at h; cases h
      | true =>
        simp only [hg, cond_true] at h
        rw [Bool.and_eq_true, Bool.and_eq_true, Bool.and_eq_true] at hg
        obtain ⟨⟨⟨g1, g2⟩, g3⟩, g4⟩ := hg
        have g1 := Nat.le_of_ble_eq_true g1
        have g2 := Nat.le_of_ble_eq_true g2
        have g3 := Nat.le_of_ble_eq_true g3
        have go : ∀ (u : sx_I), (∀ (σ : Nat → Int) (x : Int64), sx_okB σ B → sx_RL σ e9 x → sx_RL σ u (if 0 < x then x else -x)) → some (r + 1, L, .inr (.inl u) :: S0, w, nx, k, n) = some c1 → _ := fun u hu h9 => sx_pr_row (B := B) (fr := fr) (lo := lo) (S := .inr (.inl e9) :: S0) h9 hr3 (fun {p l e R s m args below meth c Q D cA z σ Fr A ρ} hfr hlo hc hs C K => by
          intro wl H locs hI hS ls lv st hl hL hSt
          obtain ⟨hx, hb, hml, hts, hown, hK, hZ, hB, hA, hn⟩ := C
          obtain ⟨x1, rest, rfl, hx1, hrest⟩ := hSt.long
          have h8 := (sx_sl_ok hrest).2
          refine va_mabs_long hx hb (by rw [hml]; exact hl.1.symm) hown (hts _ (sx_has_in sx_tb_ok g4)) (hts _ (sx_has_in sx_tb_ok (t := 2985) (w := .static Lib.MathLoose.abs_long.x) (by decide +kernel))) (hts _ (sx_has_in sx_tb_ok (t := 230) (w := .initialized "java/lang/Math") (by decide +kernel))) (hts _ (sx_has_in sx_tb_ok (t := 2986) (w := .code Lib.MathLoose.abs_long.x Lib.MathLoose.abs_long.code 2 (some .long)) (by decide +kernel))) (by omega) (by omega) hc hs hd ?_
          exact K wl H locs hI hS ls lv _ hl hL ⟨sx_RVl (hu σ x1 hB hx1), hrest⟩)
        cases h1 : sx_in B e9 0 9223372036854775807 with
        | true =>
          simp only [h1, cond_true] at h
          refine go e9 (fun σ x hB hx => ?_) h
          obtain ⟨a1, a2⟩ := sx_in64_ok hB hx h1 (by decide) (by decide)
          by_cases q : 0 < x
          · rw [if_pos q]; exact hx
          · rw [if_neg q]
            have q2 : ¬ (0 : Int) < x.toInt := fun z9 => q (Int64.lt_iff_toInt_lt.mpr (by rw [show (0 : Int64).toInt = 0 by decide]; exact z9))
            have q3 : x = 0 := Int64.toInt_inj.mp (by rw [show (0 : Int64).toInt = 0 by decide]; omega)
            rw [q3] at hx ⊢
            exact hx
        | false =>
          cases h3 : sx_in B e9 (-9223372036854775808) 0 with
          | true =>
            simp only [h1, h3, cond_false, cond_true] at h
            refine go _ (fun σ x hB hx => ?_) h
            obtain ⟨a1, a2⟩ := sx_in64_ok hB hx h3 (by decide) (by decide)
            rw [if_neg (fun q => by have := Int64.lt_iff_toInt_lt.mp q; rw [show (0 : Int64).toInt = 0 by decide] at this; omega)]
            exact sx_lneg_ok hx
          | false => simp only [h1, h3, cond_false] at h; cases h
    · cases h
  · cases h
