/-! hooks: words, texts that nobody looks at, rows made longer -/
theorem sx_hook {B : sx_Bs} {M M' : sx_M} {x : sx_R} {r nx nx' k n fr lo mc ms : Nat} {L : List (Nat × sx_V)} {S vs S' rv : List sx_V} {w w' : sx_W} (hok : sx_okR sx_pg sx_tbs M r x = true) (hq : sx_prep sx_pg x (r, L, S, w, nx, k, n) = some (M', vs, S')) (g1 : 1 ≤ fr) (g3 : M'.2.2.1 + 19 ≤ lo) (g5 : sx_sl S' ≤ 8)
    (hmet : ∀ (l : Launch) (D : va_G) (cA : Nat → ClassId) (z : Nat → Nat) (σ : Nat → Int) (Fr : va_W) (ρ : Nat → Option Nat) (wls : va_W) (xs : List Value) (sz : Nat), sx_okB σ B → sx_RS ρ z σ vs xs → sx_PI cA ρ z σ Fr w nx wls → Met l M'.1 (sx_ws M' wsL_law) ({ frames := fr - 1, cells := mc, slots := ms, locals := lo - (M'.2.2.1 + 19) }) (va_Pc xs (sx_Pre D cA z wls sz)) (sx_Q (sx_post cA ρ z σ Fr w' nx' rv) (sx_Bst D (va_A wls sz)) (va_A wls sz)) mc ms (va_A wls sz)) :
    (k ≤ k + mc ∧ n ≤ n + ms) ∧
      ∀ (p : Program) (l : Launch) (e : Env) (R : Room) (s : State) (m : MethodId) (args : Array Value) (below : List Frame) (meth : Method) (c : Code) (Q : State → Prop) (D : va_G) (cA : Nat → ClassId) (z : Nat → Nat) (σ : Nat → Int) (Fr : va_W) (A : Nat → Prop) (ρ : Nat → Option Nat),
        fr ≤ R.frames → lo ≤ R.locals → k + mc ≤ R.cells → n + ms ≤ R.slots → sx_CX p s m args meth c D cA z σ B A wsL_law M.1.cls M.1.name M.2.1 M.2.2.1 →
        (∀ ρ', sx_ge ρ ρ' → sx_KM p l e R s m args below meth c Q D cA z σ Fr A M.2.2.1 (sx_rpc M (r + 1)) (k + mc) (n + ms) ρ' L (rv ++ S') w' nx') →
        sx_KM p l e R s m args below meth c Q D cA z σ Fr A M.2.2.1 x.1 k n ρ L S w nx := by
  obtain ⟨pc0, ins, len, aux, cst⟩ := x
  refine ⟨⟨Nat.le_add_right _ _, Nat.le_add_right _ _⟩, fun p l e R s m args below meth c Q D cA z σ Fr A ρ hfr hlo hc hs C K9 => ?_⟩
  exact sx_call_ok (mc := mc) (ms := ms) (w' := w') (nx' := nx') (rv := rv) sx_prog C sx_tb_ok sx_good hok hq g1 g3 hfr hlo g5 hc hs (fun wls xs sz hxs hPI => hmet l D cA z σ Fr ρ wls xs sz C.2.2.2.2.2.2.2.1 hxs hPI) K9
theorem sx_prep_at {x : sx_R} {c : sx_S} {M' : sx_M} {vs S' : List sx_V} {mj : Nat} (hq : sx_prep sx_pg x c = some (M', vs, S')) (hm : Nat.beq (x.2.2.2.1.getD 1 0) mj = true) : sx_pg mj = some M' := by
  obtain ⟨pc0, ins, len, aux, cst⟩ := x
  obtain ⟨r, L, S, w, nx, k, n⟩ := c
  obtain ⟨kd, mj', nn, ci, tl, e1, e2, e3, e4⟩ := sx_prep_M hq
  subst e1
  have := Nat.eq_of_beq_eq_true hm
  have this : mj' = mj := this
  rw [← this]
  exact e2
/-- a number between bounds for each byte that is known -/
def sx_by (B : sx_Bs) (u : List (Nat × sx_V)) (f t : Nat) : Option (Int × Int) := match sx_lk u (f + t) with
  | some (.inl v) => sx_rn B v
  | _ => none
theorem sx_by_ok {B : sx_Bs} {ρ : Nat → Option Nat} {z : Nat → Nat} {σ : Nat → Int} (hB : sx_okB σ B) {u : List (Nat × sx_V)} {zr : Bool} {g : Nat → Int32} (h : sx_RA ρ z σ u zr (.int 0) (fun k => .int (g k))) (f : Nat) : ∀ t q, sx_by B u f t = some q → ∃ i : Int, q.1 ≤ i ∧ i ≤ q.2 ∧ g (f + t) = Int32.ofInt i := by
  intro t q hq
  unfold sx_by at hq
  split at hq
  · rename_i v hv
    have h9 := h (f + t)
    rw [hv] at h9
    obtain ⟨y, e, hy⟩ := h9
    have e : Value.int (g (f + t)) = .int y := e
    cases e
    exact sx_rn_ok hB hq hy
  · cases hq
def sx_wlist (q : Nat) : Option (List Nat) := match q with
  | 124 => sk_num[12]?
  | 128 => sk_num[14]?
  | _ => none
noncomputable def sx_prW (B : sx_Bs) : sx_Pr := fun fr lo M x c => bif Nat.beq (x.2.2.2.1.getD 1 0) 1 then (match sx_prep sx_pg x c with
  | some (_, vs, S') => bif Nat.ble 6 fr && Nat.ble 136 lo && Nat.ble (sx_sl S') 8 then (match vs with
    | [.inr (.inr (some (.inr lq))), .inr (.inr (some (.inl a))), .inl (.inl (.ofNat f, [])), .inl (.inl (.ofNat n, []))] => (match sx_wlist lq, sx_look 12 c.2.2.2.1 a with
      | some N, some (.inr (t, N9, _, u)) => bif Nat.beq t 1 && Nat.beq N9 8000 && Nat.ble (f + n) 8000 && Nat.ble n 1000 then (match sx_wk (sx_by B u f) n N N 0 0 with
        | some r => some (c.1 + 1, c.2.1, .inl (.inl (sx_c r)) :: S', c.2.2.2.1, c.2.2.2.2.1, c.2.2.2.2.2.1, c.2.2.2.2.2.2)
        | none => none) else none
      | _, _ => none)
    | _ => none) else none
  | none => none) else none
theorem sx_num12 : sk_num[12]? = some sk_num[12] := rfl
theorem sx_b12 : sk_b12 = (sk_num[12]).map (fun c => Int32.ofInt (Int.ofNat c)) := by decide +kernel
theorem sx_b14 : sk_b14 = (sk_num[14]).map (fun c => Int32.ofInt (Int.ofNat c)) := by decide +kernel
theorem sx_prW_ok (B : sx_Bs) : sx_PR1 B (sx_prW B) := by
  intro fr lo M x c0 c1 h hok
  obtain ⟨r, L, S, w, nx, k, n⟩ := c0
  unfold sx_prW at h
  cases hm : Nat.beq (x.2.2.2.1.getD 1 0) 1 with
  | false => simp only [hm, cond_false] at h; cases h
  | true =>
    simp only [hm, cond_true] at h
    split at h
    · rename_i M' vs S' hq
      have hM' := sx_prep_at hq hm
      have hM9 : sx_pg 1 = some sm_X12_wordIn := rfl
      rw [hM9] at hM'
      cases hM'
      cases hg : (Nat.ble 6 fr && Nat.ble 136 lo && Nat.ble (sx_sl S') 8) with
      | false => simp only [hg, cond_false] at h; cases h
      | true =>
        simp only [hg, cond_true] at h
        rw [Bool.and_eq_true, Bool.and_eq_true] at hg
        obtain ⟨⟨g1, g2⟩, g3⟩ := hg
        have g1 := Nat.le_of_ble_eq_true g1
        have g2 := Nat.le_of_ble_eq_true g2
        have g3 := Nat.le_of_ble_eq_true g3
        split at h
        · rename_i lq a f n9
          split at h
          · rename_i N t N9 zr u hN ha
            cases hc : (Nat.beq t 1 && Nat.beq N9 8000 && Nat.ble (f + n9) 8000 && Nat.ble n9 1000) with
            | false => simp only [hc, cond_false] at h; cases h
            | true =>
              simp only [hc, cond_true] at h
              rw [Bool.and_eq_true, Bool.and_eq_true, Bool.and_eq_true] at hc
              obtain ⟨⟨⟨c2, c3⟩, c4⟩, c5⟩ := hc
              have c2 := Nat.eq_of_beq_eq_true c2
              have c3 := Nat.eq_of_beq_eq_true c3
              have c4 := Nat.le_of_ble_eq_true c4
              have c5 := Nat.le_of_ble_eq_true c5
              subst c2 c3
              split at h
              · rename_i res hres
                cases h
                refine sx_hook (mc := 0) (ms := 0) hok hq (by omega) (show 7 + 19 ≤ lo by omega) g3 (rv := [.inl (.inl (sx_c res))]) (fun l D cA z σ Fr ρ wls xs sz hB hxs hPI => ?_)
                obtain ⟨o1, xs1, rfl, ho1, h2⟩ := hxs.ref
                obtain ⟨o2, xs2, rfl, ⟨aa, hρ, ho2⟩, h3⟩ := h2.ref
                obtain ⟨y1, xs3, rfl, hy1, h4⟩ := h3.int
                obtain ⟨y2, xs4, rfl, hy2, h5⟩ := h4.int
                have := h5.nil
                subst this
                subst ho2
                have hy1 : y1 = Int32.ofInt (sx_ev σ (sx_c (Int.ofNat f))) := hy1
                have hy2 : y2 = Int32.ofInt (sx_ev σ (sx_c (Int.ofNat n9))) := hy2
                rw [sx_ev_c] at hy1 hy2
                have e1 : y1 = nI f := hy1.trans (Int32.ofInt_eq_ofNat (n := f))
                have e2 : y2 = nI n9 := hy2.trans (Int32.ofInt_eq_ofNat (n := n9))
                subst e1 e2
                obtain ⟨kk, aa', e9, hk, hρ', ⟨xx, rfl, hx0, hx1⟩⟩ := hPI.1 a _ ha
                rw [hρ] at hρ'
                cases hρ'
                obtain ⟨x0, x1⟩ := xx
                have hx0 : x0 = 8000 := hx0
                subst hx0
                have fin : ∀ {L9 : List Int32} {N9 : List Nat}, L9 = N9.map (fun c => Int32.ofInt (Int.ofNat c)) → N = N9 → ∀ {g : Nat → Int32}, sx_RA ρ z σ u zr (.int 0) (fun k => .int (g k)) → wl L9 g f n9 = Int32.ofInt res := fun {L9 N9} hL hNN {g} hg => by
                  subst hNN
                  have := sx_wk_ok (sx_by_ok hB hg f) hL hres (i := 0) (s := 0) rfl rfl rfl
                  unfold wl
                  rw [show L9.length = N.length by rw [hL, List.length_map]]
                  exact this
                match x1, hx1 with
                | .inl g, hx1 =>
                  have done : ∀ {v9 : Int32}, v9 = Int32.ofInt res → ∀ (a9 : Array Value) (s9 : State) (o9 : Outcome) (t9 : State), sx_Q (fun (v : Option Value) (_ : Unit) => v = some (.int v9)) (fun _ t => va_P D vwCl wls t.heap ∧ va_D (va_A wls sz) wls) (va_A wls sz) a9 s9 o9 t9 → sx_Q (sx_post cA ρ z σ Fr w nx [.inl (.inl (sx_c res))]) (sx_Bst D (va_A wls sz)) (va_A wls sz) a9 s9 o9 t9 := fun {v9} hv a9 s9 o9 t9 hQ => by
                    obtain ⟨⟨v, u9, ho, hvv, hB9⟩, hF⟩ := hQ
                    subst hvv
                    subst hv
                    exact ⟨⟨_, (ρ, wls), ho, ⟨sx_ge_rf ρ, ⟨sx_RVi (sx_RNc res), trivial⟩, hPI⟩, hB9⟩, hF⟩
                  unfold sx_wlist at hN
                  split at hN
                  · have ho1 : o1 = some (z 124) := ho1.1 (by decide) (by decide)
                    subst ho1
                    exact (wi_big (m_X12_wordIn_0 l D.1 D.2 sz z aa f n9 (cA 1) g c4 c5 (by omega)) hk (show 5 ≤ fr - 1 by omega) (show 110 ≤ lo - (7 + 19) by omega)).imp9 (done (fin sx_b12 (Option.some.inj hN).symm hx1.2))
                  · have ho1 : o1 = some (z 128) := ho1.1 (by decide) (by decide)
                    subst ho1
                    exact (wi_big (n_X12_wordIn_0 l D.1 D.2 sz z aa f n9 (cA 1) g c4 c5 (by omega)) hk (show 5 ≤ fr - 1 by omega) (show 110 ≤ lo - (7 + 19) by omega)).imp9 (done (fin sx_b14 (Option.some.inj hN).symm hx1.2))
                  · cases hN
                | .inr (.inl g), hx1 => exact absurd hx1.1 (show ¬ (1 : Nat) = 4 by decide)
                | .inr (.inr (.inl g)), hx1 => exact hx1.elim
                | .inr (.inr (.inr (.inl g))), hx1 => exact hx1.elim
                | .inr (.inr (.inr (.inr g))), hx1 => exact absurd hx1.1 (show ¬ 5 ≤ 1 by decide)
              · cases h
          · cases h
        · cases h
    · cases h
noncomputable def sx_prV : sx_Pr := fun fr lo M x c => bif Nat.beq (x.2.2.2.1.getD 1 0) 8 then (match sx_prep sx_pg x c with
  | some (_, vs, S') => bif Nat.ble 6 fr && Nat.ble 324 lo && Nat.ble (sx_sl S') 8 then (match vs with
    | [.inr (.inr (some (.inr 100))), .inl (.inl (.ofNat _, []))] => some (c.1 + 1, c.2.1, sx_ext 3 :: S', c.2.2.2.1, c.2.2.2.2.1, c.2.2.2.2.2.1 + 2, c.2.2.2.2.2.2 + 264)
    | _ => none) else none
  | none => none) else none
theorem sx_prV_ok (B : sx_Bs) : sx_PR1 B sx_prV := by
  intro fr lo M x c0 c1 h hok
  obtain ⟨r, L, S, w, nx, k, n⟩ := c0
  unfold sx_prV at h
  cases hm : Nat.beq (x.2.2.2.1.getD 1 0) 8 with
  | false => simp only [hm, cond_false] at h; cases h
  | true =>
    simp only [hm, cond_true] at h
    split at h
    · rename_i M' vs S' hq
      have hM' := sx_prep_at hq hm
      have hM9 : sx_pg 8 = some sm_X12_wordOf := rfl
      rw [hM9] at hM'
      cases hM'
      cases hg : (Nat.ble 6 fr && Nat.ble 324 lo && Nat.ble (sx_sl S') 8) with
      | false => simp only [hg, cond_false] at h; cases h
      | true =>
        simp only [hg, cond_true] at h
        rw [Bool.and_eq_true, Bool.and_eq_true] at hg
        obtain ⟨⟨g1, g2⟩, g3⟩ := hg
        have g1 := Nat.le_of_ble_eq_true g1
        have g2 := Nat.le_of_ble_eq_true g2
        have g3 := Nat.le_of_ble_eq_true g3
        split at h
        · rename_i i9
          cases h
          refine sx_hook (mc := 2) (ms := 264) hok hq (by omega) (show 5 + 19 ≤ lo by omega) g3 (rv := [sx_ext 3]) (fun l D cA z σ Fr ρ wls xs sz hB hxs hPI => ?_)
          obtain ⟨o1, xs1, rfl, ho1, h2⟩ := hxs.ref
          obtain ⟨y1, xs2, rfl, hy1, h3⟩ := h2.int
          have := h3.nil
          subst this
          have hy1 : y1 = Int32.ofInt (sx_ev σ (sx_c (Int.ofNat i9))) := hy1
          rw [sx_ev_c] at hy1
          have e1 : y1 = nI i9 := hy1.trans (Int32.ofInt_eq_ofNat (n := i9))
          subst e1
          have ho1 : o1 = some (z 100) := ho1.1 (by decide) (by decide)
          subst ho1
          refine (wo_big (o_X12_wordOf_0 l D.1 D.2 sz z i9) (show 5 ≤ fr - 1 by omega) (show 300 ≤ lo - (5 + 19) by omega)).imp9 (fun a9 s9 o9 t9 hQ => ?_)
          obtain ⟨⟨v, u9, ho, hvv, hB9⟩, hF⟩ := hQ
          subst hvv
          exact ⟨⟨_, (ρ, wls), ho, ⟨sx_ge_rf ρ, ⟨sx_RVr (r := some (.inr 3)) (o := some u9) ⟨fun q => absurd rfl q, fun q => absurd q (by decide)⟩, trivial⟩, hPI⟩, hB9⟩, hF⟩
        · cases h
    · cases h
