/-! what isn't run by rows: Object's constructor -/
noncomputable def sx_prO (fr lo t : Nat) (M : sx_M) (x : sx_R) (c : sx_S) : Option sx_S := match x.2.1 with
  | .invokespecial idx => (match c.2.2.1 with
    | .inr (.inr (some (.inl _))) :: S => bif Nat.ble 1 fr && Nat.ble 20 lo && Nat.ble (sx_sl S) 8 && sx_has sx_tbs t (.methodLink M.1.cls idx objectInit) then some (c.1 + 1, c.2.1, S, c.2.2.2.1, c.2.2.2.2.1, c.2.2.2.2.2.1, c.2.2.2.2.2.2) else none
    | _ => none)
  | _ => none
/-- what a hook may do: one row -/
def sx_PR1 (B : sx_Bs) (f : sx_Pr) : Prop := ∀ (fr lo : Nat) (M : sx_M) (x : sx_R) (c0 c1 : sx_S), f fr lo M x c0 = some c1 → sx_okR sx_pg sx_tbs M c0.1 x = true →
  (c0.2.2.2.2.2.1 ≤ c1.2.2.2.2.2.1 ∧ c0.2.2.2.2.2.2 ≤ c1.2.2.2.2.2.2) ∧
  ∀ (p : Program) (l : Launch) (e : Env) (R : Room) (s : State) (m : MethodId) (args : Array Value) (below : List Frame) (meth : Method) (c : Code) (Q : State → Prop) (D : va_G) (cA : Nat → ClassId) (z : Nat → Nat) (σ : Nat → Int) (Fr : va_W) (A : Nat → Prop) (ρ : Nat → Option Nat),
    fr ≤ R.frames → lo ≤ R.locals → c1.2.2.2.2.2.1 ≤ R.cells → c1.2.2.2.2.2.2 ≤ R.slots → sx_CX p s m args meth c D cA z σ B A wsL_law M.1.cls M.1.name M.2.1 M.2.2.1 →
    (∀ ρ', sx_ge ρ ρ' → sx_KM p l e R s m args below meth c Q D cA z σ Fr A M.2.2.1 (sx_rpc M c1.1) c1.2.2.2.2.2.1 c1.2.2.2.2.2.2 ρ' c1.2.1 c1.2.2.1 c1.2.2.2.1 c1.2.2.2.2.1) →
    sx_KM p l e R s m args below meth c Q D cA z σ Fr A M.2.2.1 x.1 c0.2.2.2.2.2.1 c0.2.2.2.2.2.2 ρ c0.2.1 c0.2.2.1 c0.2.2.2.1 c0.2.2.2.2.1
theorem sx_prO_ok (B : sx_Bs) (t : Nat) : sx_PR1 B (fun fr lo M x c => sx_prO fr lo t M x c) := by
  intro fr lo M x c0 c1 h hok
  obtain ⟨pc0, ins, len, aux, cst⟩ := x
  obtain ⟨r, L, S, w, nx, k, n⟩ := c0
  replace h : sx_prO fr lo t M (pc0, ins, len, aux, cst) (r, L, S, w, nx, k, n) = some c1 := h
  replace hok : sx_okR sx_pg sx_tbs M r (pc0, ins, len, aux, cst) = true := hok
  unfold sx_prO at h
  simp only at h
  split at h
  · rename_i idx
    obtain ⟨hd, hr3, -⟩ := sx_okinv rfl hok
    split at h
    · rename_i a S0
      cases hg : (Nat.ble 1 fr && Nat.ble 20 lo && Nat.ble (sx_sl S0) 8 && sx_has sx_tbs t (.methodLink M.1.cls idx objectInit)) with
      | false => rw [hg] at h; cases h
      | true =>
        rw [hg] at h
        cases h
        rw [Bool.and_eq_true, Bool.and_eq_true, Bool.and_eq_true] at hg
        obtain ⟨⟨⟨g1, g2⟩, g3⟩, g4⟩ := hg
        have g1 := Nat.le_of_ble_eq_true g1
        have g2 := Nat.le_of_ble_eq_true g2
        have g3 := Nat.le_of_ble_eq_true g3
        refine ⟨⟨Nat.le_refl _, Nat.le_refl _⟩, fun p l e R s m args below meth c Q D cA z σ Fr A ρ hfr hlo hc hs C K => ?_⟩
        have K : sx_KM p l e R s m args below meth c Q D cA z σ Fr A M.2.2.1 (sx_rpc M (r + 1)) k n ρ L S0 w nx := K ρ (sx_ge_rf ρ)
        rw [hr3] at K
        intro wl H locs hI hS ls lv st hl hL hSt
        obtain ⟨hx, hb, hml, hts, hown, hK, hZ, hB, hA, hn⟩ := C
        obtain ⟨o, rest, rfl, ⟨b, hb9, rfl⟩, hrest⟩ := hSt.ref
        have h8 := (sx_sl_ok hrest).2
        refine W.objInit hx hb hown (hts _ (sx_has_in sx_tb_ok g4)) (hts _ (sx_has_in sx_tb_ok (t := 13) (w := .instanceMethod objectInit) (by decide +kernel))) (hts _ (sx_has_in sx_tb_ok (t := 14) (w := .code objectInit ⟨#[0xb1]⟩ 1 none) (by decide +kernel))) rfl (by rw [hml]; exact hl.1) rfl hd (by omega) (by show 2 * 0 + _ + 12 ≤ _; omega) ?_
        exact W.eq (g2 := F0 m (pc0 + 3) ls rest) rfl (K wl H locs hI hS ls lv rest hl hL hrest)
    · cases h
  · cases h
/-! System.arraycopy: of numbers, from a row of the world or from a text's bytes -/
def sx_cp (el : Nat → Option sx_V) (ok : sx_V → Bool) (sp dp : Nat) : Nat → List (Nat × sx_V) → Option (List (Nat × sx_V))
  | 0, u => some u
  | n + 1, u => (match el (sp + n) with
    | some v => bif ok v then (match sx_cp el ok sp dp n u with
      | some u' => some (sx_put u' (dp + n) v)
      | none => none) else none
    | none => none)
theorem sx_cp_ok {ρ : Nat → Option Nat} {z : Nat → Nat} {σ : Nat → Int} {el : Nat → Option sx_V} {ok : sx_V → Bool} {sp dp : Nat} {zr : Bool} {u : List (Nat × sx_V)} {F G : Nat → Int32} (hF : ∀ k v, el k = some v → sx_RV ρ z σ v (.int (F k))) (hG : sx_RA ρ z σ u zr (.int 0) (fun k => .int (G k))) : ∀ (n : Nat) {u' : List (Nat × sx_V)}, sx_cp el ok sp dp n u = some u' → sx_RA ρ z σ u' zr (.int 0) (fun k => .int (va_cpy F G sp dp n k)) ∧ ∀ i, i < n → ∃ v, el (sp + i) = some v ∧ ok v = true
  | 0, u', h => by
    cases h
    refine ⟨?_, fun i hi => absurd hi (Nat.not_lt_zero i)⟩
    have e : (fun k => Value.int (va_cpy F G sp dp 0 k)) = fun k => Value.int (G k) := by
      funext k
      unfold va_cpy
      rw [if_neg (by omega)]
    rw [e]
    exact hG
  | n + 1, u', h => by
    unfold sx_cp at h
    split at h
    · rename_i v hv
      cases hok : ok v with
      | false => rw [hok] at h; cases h
      | true =>
        rw [hok] at h
        simp only [cond_true] at h
        split at h
        · rename_i u1 hu1
          cases h
          obtain ⟨h1, h2⟩ := sx_cp_ok hF hG n hu1
          refine ⟨h1.put ?_ ?_, ?_⟩
          · have e : va_cpy F G sp dp (n + 1) (dp + n) = F (sp + n) := by
              unfold va_cpy
              rw [if_pos (by omega), show dp + n - dp = n by omega]
            show sx_RV ρ z σ v (.int (va_cpy F G sp dp (n + 1) (dp + n)))
            rw [e]
            exact hF _ _ hv
          · intro j hj
            show Value.int (va_cpy F G sp dp (n + 1) j) = Value.int (va_cpy F G sp dp n j)
            unfold va_cpy
            by_cases hc : dp ≤ j ∧ j < dp + n
            · rw [if_pos hc, if_pos (by omega)]
            · rw [if_neg hc, if_neg (by omega)]
          · intro i hi
            by_cases hin : i = n
            · subst hin
              exact ⟨v, hv, hok⟩
            · exact h2 i (by omega)
        · cases h
    · cases h
def sx_ftt (t : Nat) : Nat := match t with
  | 0 => 0
  | 1 => 2
  | 2 => 1
  | _ => 3
def sx_txe (lq : List Nat) (k : Nat) : Option sx_V := match lq[k]? with
  | some v => some (sx_int (.ofNat v))
  | none => none
noncomputable def sx_prA (B : sx_Bs) (fr lo t : Nat) (M : sx_M) (x : sx_R) (c : sx_S) : Option sx_S := match x.2.1 with
  | .invokestatic idx => (match c.2.2.1 with
    | .inl vn :: .inl vd :: .inr (.inr (some (.inl a1))) :: .inl vs :: .inr (.inr (some src)) :: S => (match sx_nn vn, sx_nn vd, sx_nn vs, sx_look 12 c.2.2.2.1 a1 with
      | some n, some dp, some sp, some (.inr (t1, n1, zr, u)) => bif Nat.ble 1 fr && Nat.ble 40 lo && Nat.ble (sx_sl S) 8 && Nat.ble (dp + n) n1 && sx_has sx_tbs t (.methodLink M.1.cls idx arraycopyName) then (match src with
        | .inl a0 => (match sx_look 12 c.2.2.2.1 a0 with
          | some (.inr (t0, n0, zr0, u0)) => bif Nat.beq t0 t1 && Nat.blt t0 4 && Nat.ble (sp + n) n0 then (match sx_cp (sx_elt t0 zr0 u0) (sx_fit B (sx_ftt t0)) sp dp n u with
            | some u' => some (c.1 + 1, c.2.1, S, sx_upd (.inr (t1, n1, zr, u')) 12 c.2.2.2.1 a1, c.2.2.2.2.1, c.2.2.2.2.2.1, c.2.2.2.2.2.2)
            | none => none) else none
          | _ => none)
        | .inr q => (match sx_bytq q with
          | some lq => bif Nat.beq t1 1 && Nat.ble (sp + n) lq.length then (match sx_cp (sx_txe lq) (sx_fit B 2) sp dp n u with
            | some u' => some (c.1 + 1, c.2.1, S, sx_upd (.inr (t1, n1, zr, u')) 12 c.2.2.2.1 a1, c.2.2.2.2.1, c.2.2.2.2.2.1, c.2.2.2.2.2.2)
            | none => none) else none
          | none => none)) else none
      | _, _, _, _ => none)
    | _ => none)
  | _ => none
theorem sx_prA_ok (B : sx_Bs) (t : Nat) : sx_PR1 B (fun fr lo M x c => sx_prA B fr lo t M x c) := by
  intro fr lo M x c0 c1 h hok
  obtain ⟨pc0, ins, len, aux, cst⟩ := x
  obtain ⟨r, L, S, w, nx, k, n⟩ := c0
  replace h : sx_prA B fr lo t M (pc0, ins, len, aux, cst) (r, L, S, w, nx, k, n) = some c1 := h
  replace hok : sx_okR sx_pg sx_tbs M r (pc0, ins, len, aux, cst) = true := hok
  unfold sx_prA at h
  simp only at h
  split at h
  · rename_i idx
    obtain ⟨hd, hr3, -⟩ := sx_okinv rfl hok
    split at h
    · rename_i vn vd a1 vs src S0
      split at h
      · rename_i n9 dp sp t1 n1 zr u hn9 hdp hsp ha1
        cases hg : (Nat.ble 1 fr && Nat.ble 40 lo && Nat.ble (sx_sl S0) 8 && Nat.ble (dp + n9) n1 && sx_has sx_tbs t (.methodLink M.1.cls idx arraycopyName)) with
        | false => rw [hg] at h; cases h
        | true =>
          rw [hg] at h
          simp only [cond_true] at h
          rw [Bool.and_eq_true, Bool.and_eq_true, Bool.and_eq_true, Bool.and_eq_true] at hg
          obtain ⟨⟨⟨⟨g1, g2⟩, g3⟩, g5⟩, g4⟩ := hg
          have g1 := Nat.le_of_ble_eq_true g1
          have g2 := Nat.le_of_ble_eq_true g2
          have g3 := Nat.le_of_ble_eq_true g3
          have g5 := Nat.le_of_ble_eq_true g5
          have w1 := sx_has_in sx_tb_ok g4
          have w2 := sx_has_in sx_tb_ok (t := 233) (w := .native arraycopyName) (by decide +kernel)
          have w3 := sx_has_in sx_tb_ok (t := 234) (w := .static arraycopyName) (by decide +kernel)
          have w4 := sx_has_in sx_tb_ok (t := 235) (w := .initialized "java/lang/System") (by decide +kernel)
          split at h
          · rename_i a0
            split at h
            · rename_i t0 n0 zr0 u0 ha0
              cases hq : (Nat.beq t0 t1 && Nat.blt t0 4 && Nat.ble (sp + n9) n0) with
              | false => rw [hq] at h; cases h
              | true =>
                rw [hq] at h
                simp only [cond_true] at h
                rw [Bool.and_eq_true, Bool.and_eq_true] at hq
                obtain ⟨⟨q1, q2⟩, q3⟩ := hq
                have q1 := Nat.eq_of_beq_eq_true q1
                subst q1
                have q2 : t0 < 4 := Nat.le_of_ble_eq_true q2
                have q3 := Nat.le_of_ble_eq_true q3
                split at h
                · rename_i u' hu'
                  cases h
                  refine ⟨⟨Nat.le_refl _, Nat.le_refl _⟩, fun p l e R s m args below meth c Q D cA z σ Fr A ρ hfr hlo hc hs C K => ?_⟩
                  have K : sx_KM p l e R s m args below meth c Q D cA z σ Fr A M.2.2.1 (sx_rpc M (r + 1)) k n ρ L S0 (sx_upd (.inr (t0, n1, zr, u')) 12 w a1) nx := K ρ (sx_ge_rf ρ)
                  rw [hr3] at K
                  intro wl H locs hI hS ls lv st hl hL hSt
                  obtain ⟨hx, hb, hml, hts, hown, hK, hZ, hB, hA, hn⟩ := C
                  obtain ⟨xn, r1, rfl, hxn, hSt1⟩ := hSt.int
                  obtain ⟨xd, r2, rfl, hxd, hSt2⟩ := hSt1.int
                  obtain ⟨o1, r3, rfl, ⟨ad1, ho1, rfl⟩, hSt3⟩ := hSt2.ref
                  obtain ⟨xs, r4, rfl, hxs, hSt4⟩ := hSt3.int
                  obtain ⟨o0, rest, rfl, ⟨ad0, ho0, rfl⟩, hrest⟩ := hSt4.ref
                  have h8 := (sx_sl_ok hrest).2
                  obtain ⟨rfl, ln⟩ := sx_nn_ok hn9 hxn
                  obtain ⟨rfl, ld⟩ := sx_nn_ok hdp hxd
                  obtain ⟨rfl, lsp⟩ := sx_nn_ok hsp hxs
                  obtain ⟨k1, b1, e1, p1, p2, ⟨X1, rfl, hX1, hY1⟩⟩ := hI.1 a1 _ ha1
                  cases ho1.symm.trans p2
                  obtain ⟨k0, b0, e0, p3, p4, ⟨X0, rfl, hX0, hY0⟩⟩ := hI.1 a0 _ ha0
                  cases ho0.symm.trans p4
                  obtain ⟨n1', X1⟩ := X1
                  obtain ⟨n0', X0⟩ := X0
                  cases (show n1' = n1 from hX1)
                  cases (show n0' = n0 from hX0)
                  have hty : ∃ ty, sx_tyF[t0]? = some ty ∧ sx_code ty = sx_ftt t0 ∧ refKind ty = false := by
                    have h7 : ∀ i : Fin 4, ∃ ty, sx_tyF[i.val]? = some ty ∧ sx_code ty = sx_ftt i.val ∧ refKind ty = false := by
                      intro i
                      match i with
                      | ⟨0, _⟩ => exact ⟨_, rfl, rfl, rfl⟩
                      | ⟨1, _⟩ => exact ⟨_, rfl, rfl, rfl⟩
                      | ⟨2, _⟩ => exact ⟨_, rfl, rfl, rfl⟩
                      | ⟨3, _⟩ => exact ⟨_, rfl, rfl, rfl⟩
                    exact h7 ⟨t0, q2⟩
                  obtain ⟨ty, hty, hcode, hprim⟩ := hty
                  match X1, hY1, X0, hY0 with
                  | .inl g, hY1, .inl f, hY0 =>
                    obtain ⟨z1, z2⟩ := sx_cp_ok (fun k v hv => sx_elt_i q2 hY0.2 hv) hY1.2 n9 hu'
                    have cn : (nI n9).toNatClampNeg = n9 := nI_clamp (by omega)
                    have cd : (nI dp).toNatClampNeg = dp := nI_clamp (by omega)
                    have cs : (nI sp).toNatClampNeg = sp := nI_clamp (by omega)
                    refine va_copyi hx hb (by rw [hml]; exact hl.1.symm) hown (hts _ w1) (hts _ w2) (hts _ w3) (hts _ w4) hK hI.2.2.2.2.1 hI.2.2.2.2.2 hS k0 k1 t0 t0 p3 p1 (sx_tys_at hty) (sx_tys_at hty) hprim (nI_pos (by omega)) (nI_pos (by omega)) (nI_pos (by omega)) (by rw [cn, cs]; exact q3) (by rw [cn, cd]; exact g5) (fun i hi => ?_) (by omega) (by show _ + (nativeFrameWords "java/lang/System" "arraycopy" 5 + 11) ≤ _; rw [show nativeFrameWords "java/lang/System" "arraycopy" 5 = 7 by decide +kernel]; omega) hd (fun H1 locs1 hP1 hD1 hS1 => ?_)
                    · rw [cn] at hi
                      rw [cs]
                      obtain ⟨v, hv, hfv⟩ := z2 i hi
                      exact (sx_fit_ok hB hfv (sx_elt_i q2 hY0.2 hv) hcode).2
                    · rw [cn, cd, cs] at hP1 hD1
                      exact K _ H1 locs1 (hI.set ho1 p1 ⟨(n1, .inl (va_cpy f g sp dp n9)), rfl, rfl, q2, z1⟩ hP1 hD1) hS1 ls lv rest hl hL hrest
                  | .inr (.inl g), hY1, _, _ => exact absurd hY1.1 (by omega)
                  | .inr (.inr (.inl g)), hY1, _, _ => exact hY1.elim
                  | .inr (.inr (.inr (.inl g))), hY1, _, _ => exact hY1.elim
                  | .inr (.inr (.inr (.inr g))), hY1, _, _ => exact absurd hY1.1 (by omega)
                  | .inl g, _, .inr (.inl f), hY0 => exact absurd hY0.1 (by omega)
                  | .inl g, _, .inr (.inr (.inl f)), hY0 => exact hY0.elim
                  | .inl g, _, .inr (.inr (.inr (.inl f))), hY0 => exact hY0.elim
                  | .inl g, _, .inr (.inr (.inr (.inr f))), hY0 => exact absurd hY0.1 (by omega)
                · cases h
            · cases h
          · rename_i q
            split at h
            · rename_i lq hlq
              cases hq : (Nat.beq t1 1 && Nat.ble (sp + n9) lq.length) with
              | false => rw [hq] at h; cases h
              | true =>
                rw [hq] at h
                simp only [cond_true] at h
                rw [Bool.and_eq_true] at hq
                obtain ⟨q1, q3⟩ := hq
                have q1 := Nat.eq_of_beq_eq_true q1
                subst q1
                have q3 := Nat.le_of_ble_eq_true q3
                split at h
                · rename_i u' hu'
                  cases h
                  refine ⟨⟨Nat.le_refl _, Nat.le_refl _⟩, fun p l e R s m args below meth c Q D cA z σ Fr A ρ hfr hlo hc hs C K => ?_⟩
                  have K : sx_KM p l e R s m args below meth c Q D cA z σ Fr A M.2.2.1 (sx_rpc M (r + 1)) k n ρ L S0 (sx_upd (.inr (1, n1, zr, u')) 12 w a1) nx := K ρ (sx_ge_rf ρ)
                  rw [hr3] at K
                  intro wl H locs hI hS ls lv st hl hL hSt
                  obtain ⟨hx, hb, hml, hts, hown, hK, hZ, hB, hA, hn⟩ := C
                  obtain ⟨xn, r1, rfl, hxn, hSt1⟩ := hSt.int
                  obtain ⟨xd, r2, rfl, hxd, hSt2⟩ := hSt1.int
                  obtain ⟨o1, r3, rfl, ⟨ad1, ho1, rfl⟩, hSt3⟩ := hSt2.ref
                  obtain ⟨xs, r4, rfl, hxs, hSt4⟩ := hSt3.int
                  obtain ⟨o0, rest, rfl, ho0, hrest⟩ := hSt4.ref
                  have h8 := (sx_sl_ok hrest).2
                  obtain ⟨rfl, ln⟩ := sx_nn_ok hn9 hxn
                  obtain ⟨rfl, ld⟩ := sx_nn_ok hdp hxd
                  obtain ⟨rfl, lsp⟩ := sx_nn_ok hsp hxs
                  obtain ⟨k1, b1, e1, p1, p2, ⟨X1, rfl, hX1, hY1⟩⟩ := hI.1 a1 _ ha1
                  cases ho1.symm.trans p2
                  obtain ⟨n1', X1⟩ := X1
                  cases (show n1' = n1 from hX1)
                  obtain ⟨j, hj, rfl, hlen, hby⟩ := sx_bytq_at hlq
                  have ho0 : o0 = some (z (101 + 2 * j)) := ho0.1 (by omega) (by omega)
                  subst ho0
                  obtain ⟨-, -, -, -, -, -, -, -, h9, -, -⟩ := hZ
                  match X1, hY1 with
                  | .inl g, hY1 =>
                    have hel : ∀ k v, sx_txe lq k = some v → sx_RV ρ z σ v (.int ((sk_byt.getD j []).getD k 0)) := by
                      intro k v hv
                      unfold sx_txe at hv
                      split at hv
                      · rename_i y hy
                        cases hv
                        rw [hby k y hy]
                        exact sx_RVi (sx_RNc _)
                      · cases hv
                    obtain ⟨z1, z2⟩ := sx_cp_ok (F := fun k => (sk_byt.getD j []).getD k 0) hel hY1.2 n9 hu'
                    have cn : (nI n9).toNatClampNeg = n9 := nI_clamp (by omega)
                    have cd : (nI dp).toNatClampNeg = dp := nI_clamp (by omega)
                    have cs : (nI sp).toNatClampNeg = sp := nI_clamp (by omega)
                    refine vk_copyt (f := fun k => (sk_byt.getD j []).getD k 0) hx hb (by rw [hml]; exact hl.1.symm) hown (hts _ w1) (hts _ w2) (hts _ w3) (hts _ w4) hK hI.2.2.2.2.1 hI.2.2.2.2.2 hS (h9.1 j hj).2.2.2 k1 1 p1 (sx_tys_at (t := .byte) rfl) (nI_pos (by omega)) (nI_pos (by omega)) (nI_pos (by omega)) (by rw [cn, cs, ← hlen]; exact q3) (by rw [cn, cd]; exact g5) (fun i hi => ?_) (by omega) (by rw [show nativeFrameWords "java/lang/System" "arraycopy" 5 = 7 by decide +kernel]; omega) hd (fun H1 locs1 hP1 hD1 hS1 => ?_)
                    · rw [cn] at hi
                      rw [cs]
                      obtain ⟨v, hv, hfv⟩ := z2 i hi
                      exact (sx_fit_ok hB hfv (hel _ _ hv) (ty := .byte) rfl).2
                    · rw [cn, cd, cs] at hP1 hD1
                      exact K _ H1 locs1 (hI.set ho1 p1 ⟨(n1, .inl (va_cpy (fun k => (sk_byt.getD j []).getD k 0) g sp dp n9)), rfl, rfl, (show (1 : Nat) < 4 by decide), z1⟩ hP1 hD1) hS1 ls lv rest hl hL hrest
                  | .inr (.inl g), hY1 => exact absurd hY1.1 (by omega)
                  | .inr (.inr (.inl g)), hY1 => exact hY1.elim
                  | .inr (.inr (.inr (.inl g))), hY1 => exact hY1.elim
                  | .inr (.inr (.inr (.inr g))), hY1 => exact absurd hY1.1 (by omega)
                · cases h
            · cases h
      · cases h
    · cases h
  · cases h
/-! Math.min, Math.max -/
noncomputable def sx_prNmin (B : sx_Bs) (fr lo t : Nat) (M : sx_M) (x : sx_R) (c : sx_S) : Option sx_S := match x.2.1 with
  | .invokestatic idx => (match c.2.2.1 with
    | .inl y :: .inl x9 :: S => (match sx_dif B y x9 with
      | some d => (match sx_rel .lt d with
        | some b => bif Nat.ble 1 fr && Nat.ble 21 lo && Nat.ble (sx_sl S) 8 && sx_has sx_tbs t (.methodLink M.1.cls idx Lib.Math.min.name) then some (c.1 + 1, c.2.1, .inl (bif b then y else x9) :: S, c.2.2.2.1, c.2.2.2.2.1, c.2.2.2.2.2.1, c.2.2.2.2.2.2) else none
        | none => none)
      | none => none)
    | _ => none)
  | _ => none
theorem sx_prNmin_ok (B : sx_Bs) (t : Nat) : sx_PR1 B (fun fr lo M x c => sx_prNmin B fr lo t M x c) := by
  intro fr lo M x c0 c1 h hok
  obtain ⟨pc0, ins, len, aux, cst⟩ := x
  obtain ⟨r, L, S, w, nx, k, n⟩ := c0
  replace h : sx_prNmin B fr lo t M (pc0, ins, len, aux, cst) (r, L, S, w, nx, k, n) = some c1 := h
  replace hok : sx_okR sx_pg sx_tbs M r (pc0, ins, len, aux, cst) = true := hok
  unfold sx_prNmin at h
  simp only at h
  split at h
  · rename_i idx
    obtain ⟨hd, hr3, -⟩ := sx_okinv rfl hok
    split at h
    · rename_i y x9 S0
      split at h
      · rename_i d9 hd9
        split at h
        · rename_i b hb9
          cases hg : (Nat.ble 1 fr && Nat.ble 21 lo && Nat.ble (sx_sl S0) 8 && sx_has sx_tbs t (.methodLink M.1.cls idx Lib.Math.min.name)) with
          | false => rw [hg] at h; cases h
          | true =>
            rw [hg] at h
            cases h
            rw [Bool.and_eq_true, Bool.and_eq_true, Bool.and_eq_true] at hg
            obtain ⟨⟨⟨g1, g2⟩, g3⟩, g4⟩ := hg
            have g1 := Nat.le_of_ble_eq_true g1
            have g2 := Nat.le_of_ble_eq_true g2
            have g3 := Nat.le_of_ble_eq_true g3
            refine ⟨⟨Nat.le_refl _, Nat.le_refl _⟩, fun p l e R s m args below meth c Q D cA z σ Fr A ρ hfr hlo hc hs C K => ?_⟩
            have K : sx_KM p l e R s m args below meth c Q D cA z σ Fr A M.2.2.1 (sx_rpc M (r + 1)) k n ρ L (.inl (bif b then y else x9) :: S0) w nx := K ρ (sx_ge_rf ρ)
            rw [hr3] at K
            intro wl H locs hI hS ls lv st hl hL hSt
            obtain ⟨hx, hb, hml, hts, hown, hK, hZ, hB, hA, hn⟩ := C
            obtain ⟨y1, r1, rfl, hy1, hSt1⟩ := hSt.int
            obtain ⟨x1, rest, rfl, hx1, hrest⟩ := hSt1.int
            have h8 := (sx_sl_ok hrest).2
            have hc9 : (y1 < x1) ↔ b = true := sx_cmp_ok hB hd9 hy1 hx1 (c := .lt) hb9
            have hval : sx_RN σ (bif b then y else x9) (if y1 < x1 then y1 else x1) := by
              cases b with
              | true => rw [if_pos (hc9.mpr rfl)]; exact hy1
              | false => rw [if_neg (fun q => absurd (hc9.mp q) (by decide))]; exact hx1
            refine va_mmin hx hb (by rw [hml]; exact hl.1.symm) hown (hts _ (sx_has_in sx_tb_ok g4)) (hts _ (sx_has_in sx_tb_ok (t := 229) (w := .static Lib.Math.min.name) (by decide +kernel))) (hts _ (sx_has_in sx_tb_ok (t := 230) (w := .initialized "java/lang/Math") (by decide +kernel))) (hts _ (sx_has_in sx_tb_ok (t := 231) (w := .code Lib.Math.min.name Lib.Math.min.code 2 (some .int)) (by decide +kernel))) (by omega) (by omega) hc hs hd ?_
            exact K wl H locs hI hS ls lv _ hl hL ⟨sx_RVi hval, hrest⟩
        · cases h
      · cases h
    · cases h
  · cases h
noncomputable def sx_prNmax (B : sx_Bs) (fr lo t : Nat) (M : sx_M) (x : sx_R) (c : sx_S) : Option sx_S := match x.2.1 with
  | .invokestatic idx => (match c.2.2.1 with
    | .inl y :: .inl x9 :: S => (match sx_dif B x9 y with
      | some d => (match sx_rel .lt d with
        | some b => bif Nat.ble 1 fr && Nat.ble 21 lo && Nat.ble (sx_sl S) 8 && sx_has sx_tbs t (.methodLink M.1.cls idx Lib.Math.max.name) then some (c.1 + 1, c.2.1, .inl (bif b then y else x9) :: S, c.2.2.2.1, c.2.2.2.2.1, c.2.2.2.2.2.1, c.2.2.2.2.2.2) else none
        | none => none)
      | none => none)
    | _ => none)
  | _ => none
theorem sx_prNmax_ok (B : sx_Bs) (t : Nat) : sx_PR1 B (fun fr lo M x c => sx_prNmax B fr lo t M x c) := by
  intro fr lo M x c0 c1 h hok
  obtain ⟨pc0, ins, len, aux, cst⟩ := x
  obtain ⟨r, L, S, w, nx, k, n⟩ := c0
  replace h : sx_prNmax B fr lo t M (pc0, ins, len, aux, cst) (r, L, S, w, nx, k, n) = some c1 := h
  replace hok : sx_okR sx_pg sx_tbs M r (pc0, ins, len, aux, cst) = true := hok
  unfold sx_prNmax at h
  simp only at h
  split at h
  · rename_i idx
    obtain ⟨hd, hr3, -⟩ := sx_okinv rfl hok
    split at h
    · rename_i y x9 S0
      split at h
      · rename_i d9 hd9
        split at h
        · rename_i b hb9
          cases hg : (Nat.ble 1 fr && Nat.ble 21 lo && Nat.ble (sx_sl S0) 8 && sx_has sx_tbs t (.methodLink M.1.cls idx Lib.Math.max.name)) with
          | false => rw [hg] at h; cases h
          | true =>
            rw [hg] at h
            cases h
            rw [Bool.and_eq_true, Bool.and_eq_true, Bool.and_eq_true] at hg
            obtain ⟨⟨⟨g1, g2⟩, g3⟩, g4⟩ := hg
            have g1 := Nat.le_of_ble_eq_true g1
            have g2 := Nat.le_of_ble_eq_true g2
            have g3 := Nat.le_of_ble_eq_true g3
            refine ⟨⟨Nat.le_refl _, Nat.le_refl _⟩, fun p l e R s m args below meth c Q D cA z σ Fr A ρ hfr hlo hc hs C K => ?_⟩
            have K : sx_KM p l e R s m args below meth c Q D cA z σ Fr A M.2.2.1 (sx_rpc M (r + 1)) k n ρ L (.inl (bif b then y else x9) :: S0) w nx := K ρ (sx_ge_rf ρ)
            rw [hr3] at K
            intro wl H locs hI hS ls lv st hl hL hSt
            obtain ⟨hx, hb, hml, hts, hown, hK, hZ, hB, hA, hn⟩ := C
            obtain ⟨y1, r1, rfl, hy1, hSt1⟩ := hSt.int
            obtain ⟨x1, rest, rfl, hx1, hrest⟩ := hSt1.int
            have h8 := (sx_sl_ok hrest).2
            have hc9 : (x1 < y1) ↔ b = true := sx_cmp_ok hB hd9 hx1 hy1 (c := .lt) hb9
            have hval : sx_RN σ (bif b then y else x9) (if x1 < y1 then y1 else x1) := by
              cases b with
              | true => rw [if_pos (hc9.mpr rfl)]; exact hy1
              | false => rw [if_neg (fun q => absurd (hc9.mp q) (by decide))]; exact hx1
            refine va_mmax hx hb (by rw [hml]; exact hl.1.symm) hown (hts _ (sx_has_in sx_tb_ok g4)) (hts _ (sx_has_in sx_tb_ok (t := 778) (w := .static Lib.Math.max.name) (by decide +kernel))) (hts _ (sx_has_in sx_tb_ok (t := 230) (w := .initialized "java/lang/Math") (by decide +kernel))) (hts _ (sx_has_in sx_tb_ok (t := 779) (w := .code Lib.Math.max.name Lib.Math.max.code 2 (some .int)) (by decide +kernel))) (by omega) (by omega) hc hs hd ?_
            exact K wl H locs hI hS ls lv _ hl hL ⟨sx_RVi hval, hrest⟩
        · cases h
      · cases h
    · cases h
  · cases h
