/-! from one state told in patterns to another: other names, other unknowns, less known -/
/-- ids below P stand for what they stood for -/
def gx_H (P : Nat) (M : sx_M) (fr lo dk ds : Nat) (z : Nat → Nat) (σ0 : Nat → Int) (c0 : sx_Pt) (σ1 : Nat → Int) (c1 : sx_Pt) : Prop :=
  ∀ (p : Program) (l : Launch) (e : Env) (R : Room) (s : State) (m : MethodId) (args : Array Value) (below : List Frame) (meth : Method) (c : Code) (Q : State → Prop) (D : va_G) (cA : Nat → ClassId) (Fr : va_W) (A : Nat → Prop) (ρ : Nat → Option Nat) (k n : Nat),
    fr ≤ R.frames → lo ≤ R.locals → k + dk ≤ R.cells → n + ds ≤ R.slots → sx_CX p s m args meth c D cA z σ0 [] A wsL_law M.1.cls M.1.name M.2.1 M.2.2.1 →
    (∀ ρ', (∀ i a, i < P → ρ i = some a → ρ' i = some a) → sx_KM p l e R s m args below meth c Q D cA z σ1 Fr A M.2.2.1 (sx_rpc M c1.1) (k + dk) (n + ds) ρ' c1.2.1 c1.2.2.1 c1.2.2.2.1 c1.2.2.2.2) →
    sx_KM p l e R s m args below meth c Q D cA z σ0 Fr A M.2.2.1 (sx_rpc M c0.1) k n ρ c0.2.1 c0.2.2.1 c0.2.2.2.1 c0.2.2.2.2
/-- and unknowns from 1000 on are what they were -/
def gx_G (P : Nat) (M : sx_M) (fr lo dk ds : Nat) (z : Nat → Nat) (σ0 : Nat → Int) (c0 : sx_Pt) (σ1 : Nat → Int) (c1 : sx_Pt) : Prop :=
  (∀ u, 1000 ≤ u → σ1 u = σ0 u) ∧ gx_H P M fr lo dk ds z σ0 c0 σ1 c1
theorem gx_CX {p : Program} {s : State} {m : MethodId} {args : Array Value} {meth : Method} {c : Code} {D : va_G} {cA : Nat → ClassId} {z : Nat → Nat} {σ σ' : Nat → Int} {A : Nat → Prop} {own mname : String} {cc : ByteArray} {nL : Nat} (C : sx_CX p s m args meth c D cA z σ [] A wsL_law own mname cc nL) : sx_CX p s m args meth c D cA z σ' [] A wsL_law own mname cc nL := by
  obtain ⟨h1, h2, h3, h4, h5, h6, h7, -, h9, h10⟩ := C
  exact ⟨h1, h2, h3, h4, h5, h6, h7, fun q hq => (nomatch hq), h9, h10⟩
theorem gx_H.tr {P1 P2 P : Nat} (h1 : P ≤ P1) (h2 : P ≤ P2) {M : sx_M} {fr lo dk1 ds1 dk2 ds2 : Nat} {z : Nat → Nat} {σ0 σ1 σ2 : Nat → Int} {c0 c1 c2 : sx_Pt} (a : gx_H P1 M fr lo dk1 ds1 z σ0 c0 σ1 c1) (b : gx_H P2 M fr lo dk2 ds2 z σ1 c1 σ2 c2) : gx_H P M fr lo (dk1 + dk2) (ds1 + ds2) z σ0 c0 σ2 c2 := by
  intro p l e R s m args below meth c Q D cA Fr A ρ k n hfr hlo hk hn C K
  refine a p l e R s m args below meth c Q D cA Fr A ρ k n hfr hlo (by omega) (by omega) C (fun ρ1 hg1 => ?_)
  refine b p l e R s m args below meth c Q D cA Fr A ρ1 _ _ hfr hlo (by omega) (by omega) (gx_CX C) (fun ρ2 hg2 => ?_)
  rw [Nat.add_assoc, Nat.add_assoc]
  exact K ρ2 (fun i x hi hx => hg2 i x (Nat.lt_of_lt_of_le hi h2) (hg1 i x (Nat.lt_of_lt_of_le hi h1) hx))
theorem gx_H.mono {P P' : Nat} {M : sx_M} {fr lo dk ds fr' lo' dk' ds' : Nat} {z : Nat → Nat} {σ0 σ1 : Nat → Int} {c0 c1 : sx_Pt} (h : gx_H P M fr lo dk ds z σ0 c0 σ1 c1) (h0 : P' ≤ P) (h1 : fr ≤ fr') (h2 : lo ≤ lo') (h3 : dk ≤ dk') (h4 : ds ≤ ds') : gx_H P' M fr' lo' dk' ds' z σ0 c0 σ1 c1 := by
  intro p l e R s m args below meth c Q D cA Fr A ρ k n hfr hlo hk hn C K
  exact h p l e R s m args below meth c Q D cA Fr A ρ k n (Nat.le_trans h1 hfr) (Nat.le_trans h2 hlo) (by omega) (by omega) C (fun ρ' hg => (K ρ' (fun i a hi ha => hg i a (Nat.lt_of_lt_of_le hi h0) ha)).widen (by omega) (by omega))
theorem gx_H.rf {P : Nat} {M : sx_M} {fr lo : Nat} {z : Nat → Nat} {σ : Nat → Int} {c : sx_Pt} : gx_H P M fr lo 0 0 z σ c σ c := fun p l e R s m args below meth c Q D cA Fr A ρ k n hfr hlo hk hn C K => K ρ (fun _ _ _ h => h)
theorem gx_G.tr {P1 P2 P : Nat} (h1 : P ≤ P1) (h2 : P ≤ P2) {M : sx_M} {fr lo dk1 ds1 dk2 ds2 : Nat} {z : Nat → Nat} {σ0 σ1 σ2 : Nat → Int} {c0 c1 c2 : sx_Pt} (a : gx_G P1 M fr lo dk1 ds1 z σ0 c0 σ1 c1) (b : gx_G P2 M fr lo dk2 ds2 z σ1 c1 σ2 c2) : gx_G P M fr lo (dk1 + dk2) (ds1 + ds2) z σ0 c0 σ2 c2 := ⟨fun u hu => (b.1 u hu).trans (a.1 u hu), a.2.tr h1 h2 b.2⟩
theorem gx_G.mono {P P' : Nat} {M : sx_M} {fr lo dk ds fr' lo' dk' ds' : Nat} {z : Nat → Nat} {σ0 σ1 : Nat → Int} {c0 c1 : sx_Pt} (h : gx_G P M fr lo dk ds z σ0 c0 σ1 c1) (h0 : P' ≤ P) (h1 : fr ≤ fr') (h2 : lo ≤ lo') (h3 : dk ≤ dk') (h4 : ds ≤ ds') : gx_G P' M fr' lo' dk' ds' z σ0 c0 σ1 c1 := ⟨h.1, h.2.mono h0 h1 h2 h3 h4⟩
theorem gx_G.rf {P : Nat} {M : sx_M} {fr lo : Nat} {z : Nat → Nat} {σ : Nat → Int} {c : sx_Pt} : gx_G P M fr lo 0 0 z σ c σ c := ⟨fun _ _ => rfl, gx_H.rf⟩
theorem gx_σ {θ : List (Nat × sx_I)} {σ : Nat → Int} (hθ : θ.all (fun q => Nat.blt q.1 1000) = true) : ∀ u, 1000 ≤ u → sx_σi θ σ u = σ u := by
  intro u hu
  unfold sx_σi
  cases hq : sx_lk θ u with
  | none => rfl
  | some v =>
    have := List.all_eq_true.mp hθ _ (sx_lk_in hq)
    have : u < 1000 := Nat.le_of_ble_eq_true this
    omega
/-! what is told of a cell, told with less, under other names -/
def gx_wO (f : Nat → Nat) (θ : List (Nat × sx_I)) : List (Option sx_V) → List (Option sx_V) → Bool
  | [], [] => true
  | a :: as, p :: ps => (match p with
    | none => true
    | some pv => (match a with
      | some av => sx_eqV av (sx_iV f [] θ pv)
      | none => false)) && gx_wO f θ as ps
  | _, _ => false
def gx_wk (f : Nat → Nat) (θ : List (Nat × sx_I)) (a p : sx_C) : Bool := match a, p with
  | .inl o, .inl q => Nat.beq o.1 q.1 && gx_wO f θ o.2 q.2
  | .inr x, .inr y => Nat.beq x.1 y.1 && Nat.beq x.2.1 y.2.1 && (!y.2.2.1 || x.2.2.1) && y.2.2.2.all (fun q => match sx_elt x.1 x.2.2.1 x.2.2.2 q.1 with
    | some v => sx_eqV v (sx_iV f [] θ q.2)
    | none => false) && (!y.2.2.1 || x.2.2.2.all (fun q => (sx_lk y.2.2.2 q.1).isSome))
  | _, _ => false
section GXW
variable {ρ ρ' : Nat → Option Nat} {z : Nat → Nat} {σ : Nat → Int} {f : Nat → Nat} {θ : List (Nat × sx_I)}
theorem gx_zi (ρ : Nat → Option Nat) (z : Nat → Nat) : sx_zi [] ρ z = z := by
  funext i
  unfold sx_zi
  split
  · rfl
  · rfl
theorem gx_V (hρ : ∀ i a, ρ (f i) = some a → ρ' i = some a) {v : sx_V} {x : Value} (h : sx_RV ρ z σ (sx_iV f [] θ v) x) : sx_RV ρ' z (sx_σi θ σ) v x := by
  have := sx_iV_back (γ := []) hρ (fun q hq => (nomatch hq)) h
  rw [gx_zi] at this
  exact this
theorem gx_wO_ok (hρ : ∀ i a, ρ (f i) = some a → ρ' i = some a) : ∀ {as ps : List (Option sx_V)} {xs : List Value}, gx_wO f θ as ps = true → sx_RFs ρ z σ as xs → sx_RFs ρ' z (sx_σi θ σ) ps xs
  | [], [], [], _, _ => trivial
  | [], [], _ :: _, _, h => h.elim
  | [], _ :: _, _, hk, _ => nomatch hk
  | _ :: _, [], _, hk, _ => nomatch hk
  | _ :: _, _ :: _, [], _, h => h.elim
  | a :: as, p :: ps, x :: xs, hk, h => by
    unfold gx_wO at hk
    rw [Bool.and_eq_true] at hk
    refine ⟨?_, gx_wO_ok hρ hk.2 h.2⟩
    cases p with
    | none => trivial
    | some pv =>
      cases a with
      | none => exact nomatch hk.1
      | some av =>
        have e := sx_eqV_ok (show sx_eqV av (sx_iV f [] θ pv) = true from hk.1)
        have h1 : sx_RV ρ z σ av x := h.1
        rw [e] at h1
        exact gx_V hρ h1
theorem gx_A (hρ : ∀ i a, ρ (f i) = some a → ρ' i = some a) {zr zr' : Bool} {u u' : List (Nat × sx_V)} {t : Nat} {d : Value} {g : Nat → Value} (hz : (!zr' || zr) = true) (h1 : u'.all (fun q => match sx_elt t zr u q.1 with
    | some v => sx_eqV v (sx_iV f [] θ q.2)
    | none => false) = true) (h2 : (!zr' || u.all (fun q => (sx_lk u' q.1).isSome)) = true) (hA : sx_RA ρ z σ u zr d g) (he : ∀ {k : Nat} {v : sx_V}, sx_elt t zr u k = some v → sx_RV ρ z σ v (g k)) : sx_RA ρ' z (sx_σi θ σ) u' zr' d g := by
  intro k
  cases hk : sx_lk u' k with
  | some v =>
    have := List.all_eq_true.mp h1 _ (sx_lk_in hk)
    split at this
    · rename_i v2 hv2
      have h3 := he hv2
      rw [sx_eqV_ok this] at h3
      exact gx_V hρ h3
    · cases this
  | none =>
    intro hzr
    subst hzr
    have hz : zr = true := hz
    have h2 : u.all (fun q => (sx_lk u' q.1).isSome) = true := h2
    have h9 := hA k
    cases hu : sx_lk u k with
    | none => rw [hu] at h9; exact h9 hz
    | some v =>
      have := List.all_eq_true.mp h2 _ (sx_lk_in hu)
      rw [show sx_lk u' k = none from hk] at this
      cases this
theorem gx_wk_ok (hρ : ∀ i a, ρ (f i) = some a → ρ' i = some a) {cA : Nat → ClassId} {a p : sx_C} {e : va_E} (hk : gx_wk f θ a p = true) (h : sx_RC ρ z σ cA a e) : sx_RC ρ' z (sx_σi θ σ) cA p e := by
  unfold gx_wk at hk
  split at hk
  · rename_i o q
    rw [Bool.and_eq_true] at hk
    obtain ⟨xs, h1, h2⟩ := h
    exact ⟨xs, by rw [h1, Nat.eq_of_beq_eq_true hk.1], gx_wO_ok hρ hk.2 h2⟩
  · rename_i x y
    obtain ⟨t, n, zr, u⟩ := x
    obtain ⟨t', n', zr', u'⟩ := y
    rw [Bool.and_eq_true, Bool.and_eq_true, Bool.and_eq_true, Bool.and_eq_true] at hk
    obtain ⟨⟨⟨⟨k1, k2⟩, k3⟩, k4⟩, k5⟩ := hk
    have e1 : t = t' := Nat.eq_of_beq_eq_true k1
    have e2 : n = n' := Nat.eq_of_beq_eq_true k2
    subst e1
    subst e2
    obtain ⟨x, hx, h0, h2⟩ := h
    refine ⟨x, hx, h0, ?_⟩
    match hx2 : x.2, h2 with
    | .inl g, h2 =>
      obtain ⟨g1, g2⟩ := h2
      exact ⟨g1, gx_A hρ k3 k4 k5 g2 (fun hv => sx_elt_i g1 g2 hv)⟩
    | .inr (.inl g), h2 =>
      obtain ⟨g1, g2⟩ := h2
      have g1 : t = 4 := g1
      subst g1
      exact ⟨rfl, gx_A hρ k3 k4 k5 g2 (fun hv => sx_elt_l g2 hv)⟩
    | .inr (.inr (.inl g)), h2 => exact h2.elim
    | .inr (.inr (.inr (.inl g))), h2 => exact h2.elim
    | .inr (.inr (.inr (.inr g))), h2 =>
      obtain ⟨g1, g2⟩ := h2
      exact ⟨g1, gx_A hρ k3 k4 k5 g2 (fun hv => sx_elt_q g1 g2 hv)⟩
  · cases hk
/-! values that are not touched by the new names -/
def gx_lI (θ : List (Nat × sx_I)) (e : sx_I) : Bool := e.2.all (fun q => (sx_lk θ q.1).isNone)
def gx_lV (P : Nat) (θ : List (Nat × sx_I)) (v : sx_V) : Bool := match v with
  | .inl (.inl e) => gx_lI θ e
  | .inl (.inr _) => true
  | .inr (.inl e) => gx_lI θ e
  | .inr (.inr (some (.inl i))) => Nat.blt i P
  | .inr (.inr _) => true
def gx_lC (P : Nat) (θ : List (Nat × sx_I)) (c : sx_C) : Bool := match c with
  | .inl o => o.2.all (fun v => match v with
    | none => true
    | some v => gx_lV P θ v)
  | .inr x => x.2.2.2.all (fun q => gx_lV P θ q.2)
theorem gx_lI_ok {e : sx_I} (h : gx_lI θ e = true) : sx_ev (sx_σi θ σ) e = sx_ev σ e := by
  have key : ∀ (l : List (Nat × Int)), l.all (fun q => (sx_lk θ q.1).isNone) = true → sx_evl (sx_σi θ σ) l = sx_evl σ l := by
    intro l
    induction l with
    | nil => exact fun _ => rfl
    | cons q t ih =>
      intro h
      rw [List.all_cons, Bool.and_eq_true] at h
      show q.2 * sx_σi θ σ q.1 + sx_evl (sx_σi θ σ) t = q.2 * σ q.1 + sx_evl σ t
      rw [ih h.2]
      congr 2
      unfold sx_σi
      cases hq : sx_lk θ q.1 with
      | none => rfl
      | some v => rw [hq] at h; exact nomatch h.1
  unfold sx_ev
  rw [key e.2 h]
theorem gx_lV_ok {P : Nat} (hρ : ∀ i a, i < P → ρ i = some a → ρ' i = some a) {v : sx_V} {x : Value} (hl : gx_lV P θ v = true) (h : sx_RV ρ z σ v x) : sx_RV ρ' z (sx_σi θ σ) v x := by
  match v, hl, h with
  | .inl (.inl e), hl, ⟨y, h1, h2⟩ => exact ⟨y, h1, by show y = Int32.ofInt (sx_ev (sx_σi θ σ) e); rw [gx_lI_ok hl]; exact h2⟩
  | .inl (.inr r), _, h => exact h
  | .inr (.inl e), hl, ⟨y, h1, h2⟩ => exact ⟨y, h1, by show y = Int64.ofInt (sx_ev (sx_σi θ σ) e); rw [gx_lI_ok hl]; exact h2⟩
  | .inr (.inr none), _, h => exact h
  | .inr (.inr (some (.inr q))), _, h => exact h
  | .inr (.inr (some (.inl i))), hl, ⟨o, h1, a, h2, h3⟩ => exact ⟨o, h1, a, hρ i a (Nat.le_of_ble_eq_true hl) h2, h3⟩
theorem gx_lO_ok {P : Nat} (hρ : ∀ i a, i < P → ρ i = some a → ρ' i = some a) : ∀ {as : List (Option sx_V)} {xs : List Value}, as.all (fun v => match v with
    | none => true
    | some v => gx_lV P θ v) = true → sx_RFs ρ z σ as xs → sx_RFs ρ' z (sx_σi θ σ) as xs
  | [], [], _, _ => trivial
  | [], _ :: _, _, h => h.elim
  | _ :: _, [], _, h => h.elim
  | none :: as, x :: xs, hk, h => by
    rw [List.all_cons, Bool.and_eq_true] at hk
    exact ⟨trivial, gx_lO_ok hρ hk.2 h.2⟩
  | some v :: as, x :: xs, hk, h => by
    rw [List.all_cons, Bool.and_eq_true] at hk
    exact ⟨gx_lV_ok hρ hk.1 h.1, gx_lO_ok hρ hk.2 h.2⟩
theorem gx_lA_ok {P : Nat} (hρ : ∀ i a, i < P → ρ i = some a → ρ' i = some a) {u : List (Nat × sx_V)} {zr : Bool} {d : Value} {g : Nat → Value} (hl : u.all (fun q => gx_lV P θ q.2) = true) (h : sx_RA ρ z σ u zr d g) : sx_RA ρ' z (sx_σi θ σ) u zr d g := by
  intro k
  have h9 := h k
  cases hk : sx_lk u k with
  | none => rw [hk] at h9; exact h9
  | some v => rw [hk] at h9; exact gx_lV_ok hρ (List.all_eq_true.mp hl _ (sx_lk_in hk)) h9
theorem gx_lC_ok {P : Nat} (hρ : ∀ i a, i < P → ρ i = some a → ρ' i = some a) {cA : Nat → ClassId} {c : sx_C} {e : va_E} (hl : gx_lC P θ c = true) (h : sx_RC ρ z σ cA c e) : sx_RC ρ' z (sx_σi θ σ) cA c e := by
  match c, hl, h with
  | .inl o, hl, ⟨xs, h1, h2⟩ => exact ⟨xs, h1, gx_lO_ok hρ hl h2⟩
  | .inr a, hl, ⟨x, h1, h0, h2⟩ =>
    refine ⟨x, h1, h0, ?_⟩
    match hx : x.2, h2 with
    | .inl g, h => exact ⟨h.1, gx_lA_ok hρ hl h.2⟩
    | .inr (.inl g), h => exact ⟨h.1, gx_lA_ok hρ hl h.2⟩
    | .inr (.inr (.inl g)), h => exact h.elim
    | .inr (.inr (.inr (.inl g))), h => exact h.elim
    | .inr (.inr (.inr (.inr g))), h => exact ⟨h.1, gx_lA_ok hρ hl h.2⟩
end GXW
/-! renaming -/
/-- the old name of i: below P its own, else by the list -/
def gx_gd (P : Nat) (fs : List (Nat × Nat)) (i : Nat) : Option Nat := bif Nat.blt i P then some i else sx_lk fs i
def gx_gf (P : Nat) (fs : List (Nat × Nat)) (nx i : Nat) : Nat := (gx_gd P fs i).getD nx
def gx_okfs (P nx1 : Nat) (fs : List (Nat × Nat)) : Bool := fs.all (fun q => Nat.ble P q.2 && Nat.blt q.1 nx1) && sx_nod (fs.map Prod.snd)
def gx_rh (P : Nat) (fs : List (Nat × Nat)) (ρ : Nat → Option Nat) (i : Nat) : Option Nat := match gx_gd P fs i with
  | some j => ρ j
  | none => none
theorem gx_gd_inj {P nx1 : Nat} {fs : List (Nat × Nat)} (h : gx_okfs P nx1 fs = true) {i j x : Nat} (hi : gx_gd P fs i = some x) (hj : gx_gd P fs j = some x) : i = j := by
  unfold gx_okfs at h
  rw [Bool.and_eq_true] at h
  obtain ⟨h1, h2⟩ := h
  have big : ∀ {a b : Nat}, sx_lk fs a = some b → P ≤ b := fun {a b} e => by
    have := List.all_eq_true.mp h1 _ (sx_lk_in e)
    rw [Bool.and_eq_true] at this
    exact Nat.le_of_ble_eq_true this.1
  unfold gx_gd at hi hj
  cases ci : Nat.blt i P with
  | true =>
    have li : i < P := Nat.le_of_ble_eq_true ci
    rw [ci, cond_true] at hi
    cases hi
    cases cj : Nat.blt j P with
    | true => rw [cj, cond_true] at hj; cases hj; rfl
    | false => rw [cj, cond_false] at hj; have := big hj; omega
  | false =>
    rw [ci, cond_false] at hi
    cases cj : Nat.blt j P with
    | true =>
      have lj : j < P := Nat.le_of_ble_eq_true cj
      rw [cj, cond_true] at hj
      cases hj
      have := big hi
      omega
    | false =>
      rw [cj, cond_false] at hj
      obtain ⟨a, ha⟩ := List.getElem?_of_mem (sx_lk_in hi)
      obtain ⟨b, hb⟩ := List.getElem?_of_mem (sx_lk_in hj)
      have e : a = b := sx_nod_ok h2 a b x (by rw [List.getElem?_map, ha]; rfl) (by rw [List.getElem?_map, hb]; rfl)
      subst e
      rw [ha] at hb
      cases hb
      rfl
theorem gx_gd_lt {P nx1 : Nat} {fs : List (Nat × Nat)} (h : gx_okfs P nx1 fs = true) (hP : P ≤ nx1) {i x : Nat} (hi : gx_gd P fs i = some x) : i < nx1 := by
  unfold gx_okfs at h
  rw [Bool.and_eq_true] at h
  unfold gx_gd at hi
  cases ci : Nat.blt i P with
  | true => have li : i < P := Nat.le_of_ble_eq_true ci; omega
  | false =>
    rw [ci, cond_false] at hi
    have := List.all_eq_true.mp h.1 _ (sx_lk_in hi)
    rw [Bool.and_eq_true] at this
    exact Nat.le_of_ble_eq_true this.2
theorem gx_L_ok {ρ ρ' : Nat → Option Nat} {z : Nat → Nat} {σ : Nat → Int} {f : Nat → Nat} {θ : List (Nat × sx_I)} (hρ : ∀ i a, ρ (f i) = some a → ρ' i = some a) {lv : List (Nat × Value)} {L : List (Nat × sx_V)} (hL : sx_RLs ρ z σ L lv) : ∀ {L0 : List (Nat × sx_V)}, L0.all (fun q => match sx_lk L q.1 with
      | some v => sx_eqV v (sx_iV f [] θ q.2)
      | none => false) = true → ∃ lv0, sx_RLs ρ' z (sx_σi θ σ) L0 lv0 ∧ ∀ x ∈ lv0, x ∈ lv
  | [], _ => ⟨[], trivial, fun x hx => (nomatch hx)⟩
  | q :: t, h => by
    have h := List.all_eq_true.mp h
    obtain ⟨lv0, a1, a2⟩ := gx_L_ok hρ hL (L0 := t) (List.all_eq_true.mpr fun x hx => h x (List.mem_cons_of_mem _ hx))
    have hq := h q List.mem_cons_self
    split at hq
    · rename_i v hv
      have := sx_eqV_ok hq
      subst this
      obtain ⟨k9, x, b1, b2⟩ := hL.at hv
      exact ⟨(q.1, x) :: lv0, ⟨rfl, gx_V hρ b2, a1⟩, fun y hy => by
        rcases List.mem_cons.mp hy with rfl | hy
        · exact List.mem_of_getElem? b1
        · exact a2 y hy⟩
    · cases hq
/-- the state behind a segment, told otherwise -/
theorem gx_conv {M : sx_M} {fr lo dk ds : Nat} {z : Nat → Nat} {σ : Nat → Int} {c0 : sx_Pt} {r1 nx nx1 P : Nat} {L L1 : List (Nat × sx_V)} {S S1 : List sx_V} {w w1 : sx_W} (fs : List (Nat × Nat)) (θ : List (Nat × sx_I)) (h : sx_Sg wsL_law M fr lo dk ds z σ c0 (r1, L, S, w, nx)) (hfs : gx_okfs P nx1 fs = true) (hP : P ≤ nx1)
    (hw : ∀ i c, sx_look 12 w1 i = some c → (∃ c', sx_look 12 w (gx_gf P fs nx i) = some c' ∧ gx_wk (gx_gf P fs nx) θ c' c = true) ∨ (i < P ∧ sx_look 12 w i = some c ∧ gx_lC P θ c = true))
    (hL : L1.all (fun q => match sx_lk L q.1 with
      | some v => sx_eqV v (sx_iV (gx_gf P fs nx) [] θ q.2)
      | none => false) = true) (hS : sx_eqS S (sx_iS (gx_gf P fs nx) [] θ S1) = true) : gx_H P M fr lo dk ds z σ c0 (sx_σi θ σ) (r1, L1, S1, w1, nx1) := by
  intro p l e R s m args below meth c Q D cA Fr A ρ k n hfr hlo hk hn C K
  refine h p l e R s m args below meth c Q D cA Fr A ρ k n hfr hlo hk hn C (fun ρ1 hg1 => ?_)
  intro wl H locs hI hSS ls lv st hl hLv hSt
  have hnx : ρ1 nx = none := by
    cases e9 : ρ1 nx with
    | none => rfl
    | some a => have := (hI.2.1 nx a e9).1; exact absurd this (Nat.lt_irrefl _)
  have hρ : ∀ i a, ρ1 (gx_gf P fs nx i) = some a → gx_rh P fs ρ1 i = some a := by
    intro i a hi
    unfold gx_gf at hi
    unfold gx_rh
    cases hd : gx_gd P fs i with
    | none => rw [hd] at hi; have hi : ρ1 nx = some a := hi; rw [hnx] at hi; cases hi
    | some j => rw [hd] at hi; exact hi
  have hlo2 : ∀ i a, i < P → ρ1 i = some a → gx_rh P fs ρ1 i = some a := by
    intro i a hi ha
    unfold gx_rh gx_gd
    rw [show Nat.blt i P = true from Nat.ble_eq_true_of_le hi]
    exact ha
  have back : ∀ i a, gx_rh P fs ρ1 i = some a → ∃ j, gx_gd P fs i = some j ∧ ρ1 j = some a := by
    intro i a hi
    unfold gx_rh at hi
    cases hd : gx_gd P fs i with
    | none => rw [hd] at hi; cases hi
    | some j => rw [hd] at hi; exact ⟨j, rfl, hi⟩
  obtain ⟨lv0, l1, l2⟩ := gx_L_ok hρ hLv hL
  have hSt : sx_RS ρ1 z σ S st := hSt
  rw [sx_eqS_ok hS] at hSt
  have hSt2 := sx_iS_back (γ := []) hρ (fun q hq => (nomatch hq)) hSt
  rw [gx_zi] at hSt2
  refine K (gx_rh P fs ρ1) (fun i a hi ha => hlo2 i a hi (hg1 i a ha)) wl H locs ⟨?_, ?_, ?_, ?_, hI.2.2.2.2.1, hI.2.2.2.2.2⟩ hSS ls lv0 st ⟨hl.1, hl.2.1, fun x hx => hl.2.2 x (l2 x hx)⟩ l1 hSt2
  · intro i c9 hc
    rcases hw i c9 hc with ⟨c', h1, h2⟩ | ⟨h0, h1, h2⟩
    · obtain ⟨k9, a, e9, q1, q2, q3⟩ := hI.1 _ _ h1
      exact ⟨k9, a, e9, q1, hρ i a q2, gx_wk_ok hρ h2 q3⟩
    · obtain ⟨k9, a, e9, q1, q2, q3⟩ := hI.1 _ _ h1
      exact ⟨k9, a, e9, q1, hlo2 i a h0 q2, gx_lC_ok hlo2 h2 q3⟩
  · intro i a hi
    obtain ⟨j, h1, h2⟩ := back i a hi
    exact ⟨gx_gd_lt hfs hP h1, (hI.2.1 j a h2).2⟩
  · intro i j a hi hj
    obtain ⟨x, h1, h2⟩ := back i a hi
    obtain ⟨y, h3, h4⟩ := back j a hj
    have := hI.2.2.1 x y a h2 h4
    subst this
    exact gx_gd_inj hfs h1 h3
  · intro x hx
    obtain ⟨h1, h2⟩ := hI.2.2.2.1 x hx
    refine ⟨h1, fun i hi => ?_⟩
    obtain ⟨j, -, h4⟩ := back i _ hi
    exact h2 j h4
/-! worlds out of lists -/
def gx_mk : List (Nat × sx_C) → sx_W
  | [] => sx_emp 12
  | q :: t => sx_upd q.2 12 (gx_mk t) q.1
theorem gx_mk_look {i : Nat} (hi : i < 4096) : ∀ (cs : List (Nat × sx_C)), sx_look 12 (gx_mk cs) i = sx_lk cs i
  | [] => sx_look_emp 12 i
  | q :: t => by
    show sx_look 12 (sx_upd q.2 12 (gx_mk t) q.1) i = (bif Nat.beq q.1 i then some q.2 else sx_lk t i)
    cases h : Nat.beq q.1 i with
    | true =>
      rw [Nat.eq_of_beq_eq_true h]
      exact sx_look_updS 12 hi
    | false =>
      rw [sx_look_updN 12 (fun e => by rw [e, Nat.beq_refl] at h; cases h)]
      exact gx_mk_look hi t
theorem gx_mk_some {i : Nat} {c : sx_C} {cs : List (Nat × sx_C)} (h : sx_look 12 (gx_mk cs) i = some c) : i < 4096 ∧ sx_lk cs i = some c := by
  have hi : i < 4096 := sx_look_lt 12 h
  exact ⟨hi, by rw [← gx_mk_look hi]; exact h⟩
noncomputable def gx_mf (cs : List (Nat × sx_C)) : fx_W := List.rec (motive := fun _ => fx_W) (sx_emp 9) (fun q _ ih => fx_upd q.2 9 ih q.1) cs
theorem gx_mf_look {i : Nat} (hi : i < 512) : ∀ (cs : List (Nat × sx_C)), fx_look 9 (gx_mf cs) i = sx_lk cs i
  | [] => by rw [fx_look_eq]; exact sx_look_emp 9 i
  | q :: t => by
    show fx_look 9 (fx_upd q.2 9 (gx_mf t) q.1) i = (bif Nat.beq q.1 i then some q.2 else sx_lk t i)
    rw [fx_look_eq, fx_upd_eq]
    cases h : Nat.beq q.1 i with
    | true =>
      rw [Nat.eq_of_beq_eq_true h]
      exact sx_look_updS 9 hi
    | false =>
      rw [sx_look_updN 9 (fun e => by rw [e, Nat.beq_refl] at h; cases h), ← fx_look_eq]
      exact gx_mf_look hi t
theorem gx_mf_lt {i : Nat} {c : sx_C} {w : fx_W} (h : fx_look 9 w i = some c) : i < 512 := by
  rw [fx_look_eq] at h
  exact sx_look_lt 9 h
theorem gx_lk_app {α : Type} (i : Nat) (b : List (Nat × α)) : ∀ (a : List (Nat × α)), sx_lk (a ++ b) i = (match sx_lk a i with
    | some c => some c
    | none => sx_lk b i)
  | [] => rfl
  | q :: t => by
    show (bif Nat.beq q.1 i then some q.2 else sx_lk (t ++ b) i) = (match (bif Nat.beq q.1 i then some q.2 else sx_lk t i) with
      | some c => some c
      | none => sx_lk b i)
    cases Nat.beq q.1 i with
    | true => rfl
    | false => exact gx_lk_app i b t
/-- row, locals, stack, cells, next id -/
abbrev gx_Z : Type := Nat × List (Nat × sx_V) × List sx_V × List (Nat × sx_C) × Nat
def gx_pt (c : gx_Z) (G : List (Nat × sx_C)) : sx_Pt := (c.1, c.2.1, c.2.2.1, gx_mk (c.2.2.2.1 ++ G), c.2.2.2.2)
/-- runs, one behind the other: to these rows -/
noncomputable def gx_rp (I : Nat → Bool) (B : sx_Bs) (f fr lo : Nat) (M : sx_M) (ts : List Nat) : Nat → List (Nat × sx_V) → List sx_V → fx_W → Nat → Nat → Nat → Option fx_S := List.rec (motive := fun _ => Nat → List (Nat × sx_V) → List sx_V → fx_W → Nat → Nat → Nat → Option fx_S) (fun r L S w nx k n => some (r, L, S, w, nx, k, n)) (fun t _ ih r L S w nx k n => match fx_ex I B f fr lo M t true r L S w nx 0 0 with
  | none => none
  | some (r1, L1, S1, w1, nx1, k1, n1) => ih r1 L1 S1 w1 nx1 (k + k1) (n + n1)) ts
theorem gx_rp_ok {I : Nat → Bool} {B : sx_Bs} {f fr lo : Nat} {M : sx_M} {z : Nat → Nat} {σ : Nat → Int} (hM : ∃ mi, sx_p9 mi = some M) (hB : sx_okB σ B) : ∀ (ts : List Nat) (r : Nat) (L : List (Nat × sx_V)) (S : List sx_V) (w : fx_W) (nx k n : Nat) (d : fx_S), gx_rp I B f fr lo M ts r L S w nx k n = some d → ∀ (w' : sx_W), fx_le w w' → fx_pm I w nx w' → k ≤ d.2.2.2.2.2.1 ∧ n ≤ d.2.2.2.2.2.2 ∧ ∃ w1', fx_go w nx w' d.2.2.2.1 d.2.2.2.2.1 w1' ∧ sx_Sg wsL_law M fr lo (d.2.2.2.2.2.1 - k) (d.2.2.2.2.2.2 - n) z σ (r, L, S, w', nx) (d.1, d.2.1, d.2.2.1, w1', d.2.2.2.2.1)
  | [], r, L, S, w, nx, k, n, d, h, w', hw, hI => by
    have h : some (r, L, S, w, nx, k, n) = some d := h
    cases h
    refine ⟨Nat.le_refl _, Nat.le_refl _, w', fx_go.rf hw, ?_⟩
    show sx_Sg wsL_law M fr lo (k - k) (n - n) z σ _ _
    rw [Nat.sub_self, Nat.sub_self]
    exact sx_Sg.rf
  | t :: ts, r, L, S, w, nx, k, n, d, h, w', hw, hI => by
    have h : (match fx_ex I B f fr lo M t true r L S w nx 0 0 with
      | none => none
      | some (r1, L1, S1, w1, nx1, k1, n1) => gx_rp I B f fr lo M ts r1 L1 S1 w1 nx1 (k + k1) (n + n1)) = some d := h
    cases hd : fx_ex I B f fr lo M t true r L S w nx 0 0 with
    | none => rw [hd] at h; cases h
    | some c =>
      obtain ⟨r1, L1, S1, w1, nx1, k1, n1⟩ := c
      rw [hd] at h
      have h : gx_rp I B f fr lo M ts r1 L1 S1 w1 nx1 (k + k1) (n + n1) = some d := h
      obtain ⟨w1', hex, hg⟩ := fx_sim I B f fr lo M t true r L S w nx 0 0 _ hd w' hw hI
      have hsg : sx_Sg wsL_law M fr lo k1 n1 z σ (r, L, S, w', nx) (r1, L1, S1, w1', nx1) := sx_Sg.ex (sx_snd9 B) (sx_pra_sh B) hM hB hex
      obtain ⟨a1, a2, w2', a3, a4⟩ := gx_rp_ok hM hB ts r1 L1 S1 w1 nx1 (k + k1) (n + n1) d h w1' hg.1 (hI.go hg)
      refine ⟨by omega, by omega, w2', hg.tr a3, ?_⟩
      exact (hsg.trans a4).mono (Nat.le_refl _) (Nat.le_refl _) (by omega) (by omega)
/-- a run in a small world, its end told otherwise -/
noncomputable def gx_ok (I : Nat → Bool) (B : sx_Bs) (f fr lo : Nat) (M : sx_M) (ts : List Nat) (c0 : gx_Z) (dk ds P : Nat) (fs : List (Nat × Nat)) (θ : List (Nat × sx_I)) (c1 : gx_Z) : Bool :=
  match gx_rp I B f fr lo M ts c0.1 c0.2.1 c0.2.2.1 (gx_mf c0.2.2.2.1) c0.2.2.2.2 0 0 with
  | none => false
  | some d => Nat.beq d.1 c1.1 && Nat.ble d.2.2.2.2.2.1 dk && Nat.ble d.2.2.2.2.2.2 ds && gx_okfs P c1.2.2.2.2 fs && Nat.ble P c1.2.2.2.2 && Nat.ble P c0.2.2.2.2 && c1.2.2.2.1.all (fun q => match fx_look 9 d.2.2.2.1 (gx_gf P fs d.2.2.2.2.1 q.1) with
      | some c' => gx_wk (gx_gf P fs d.2.2.2.2.1) θ c' q.2
      | none => false) && c1.2.1.all (fun q => match sx_lk d.2.1 q.1 with
      | some v => sx_eqV v (sx_iV (gx_gf P fs d.2.2.2.2.1) [] θ q.2)
      | none => false) && sx_eqS d.2.2.1 (sx_iS (gx_gf P fs d.2.2.2.2.1) [] θ c1.2.2.1)
/-- what is carried along -/
def gx_okG (P : Nat) (θ : List (Nat × sx_I)) (cs : List (Nat × sx_C)) (G : List (Nat × sx_C)) : Bool := G.all (fun q => Nat.blt q.1 P && (sx_lk cs q.1).isNone && gx_lC P θ q.2)
def gx_okI (I : Nat → Bool) (c0 : gx_Z) (G : List (Nat × sx_C)) : Prop := ∀ j, I j = true → j < c0.2.2.2.2 ∧ j < 4096 ∧ sx_lk c0.2.2.2.1 j = none ∧ ∃ fs, sx_lk G j = some (.inl (6, fs))
theorem gx_mac {I : Nat → Bool} {B : sx_Bs} {f fr lo : Nat} {M : sx_M} {ts : List Nat} {c0 : gx_Z} {dk ds P : Nat} {fs : List (Nat × Nat)} {θ : List (Nat × sx_I)} {c1 : gx_Z} {G : List (Nat × sx_C)} {z : Nat → Nat} {σ : Nat → Int} (hM : ∃ mi, sx_p9 mi = some M) (hB : sx_okB σ B) (h : gx_ok I B f fr lo M ts c0 dk ds P fs θ c1 = true) (hG : gx_okG P θ c0.2.2.2.1 G = true) (hI : gx_okI I c0 G) : gx_H P M fr lo dk ds z σ (gx_pt c0 G) (sx_σi θ σ) (gx_pt c1 G) := by
  obtain ⟨r0, L0, S0, cs0, nx0⟩ := c0
  obtain ⟨r1, L1, S1, cs1, nx1⟩ := c1
  unfold gx_ok at h
  simp only at h hG
  split at h
  · cases h
  · rename_i d hd
    obtain ⟨rd, Ld, Sd, wd, nd, kd, sd⟩ := d
    simp only at h
    rw [Bool.and_eq_true, Bool.and_eq_true, Bool.and_eq_true, Bool.and_eq_true, Bool.and_eq_true, Bool.and_eq_true, Bool.and_eq_true, Bool.and_eq_true] at h
    obtain ⟨⟨⟨⟨⟨⟨⟨⟨h1, h2⟩, h3⟩, h5⟩, h6⟩, h7⟩, h8⟩, h9⟩, h10⟩ := h
    have e1 := Nat.eq_of_beq_eq_true h1
    subst e1
    have hG := List.all_eq_true.mp hG
    have hle : fx_le (gx_mf cs0) (gx_mk (cs0 ++ G)) := by
      intro i c hi
      have hlt := gx_mf_lt hi
      rw [gx_mf_look hlt] at hi
      rw [gx_mk_look (by omega), gx_lk_app, hi]
    have hpm : fx_pm I (gx_mf cs0) nx0 (gx_mk (cs0 ++ G)) := by
      intro j hj
      obtain ⟨a1, a2, a3, fs9, a4⟩ := hI j hj
      have a3 : sx_lk cs0 j = none := a3
      refine ⟨a1, ?_, fs9, ?_⟩
      · cases e9 : fx_look 9 (gx_mf cs0) j with
        | none => rfl
        | some c9 => rw [gx_mf_look (gx_mf_lt e9), a3] at e9; cases e9
      · rw [gx_mk_look a2, gx_lk_app, a3]
        exact a4
    obtain ⟨-, -, w1', ⟨g1, g2, g3⟩, hsg⟩ := gx_rp_ok (z := z) hM hB ts r0 L0 S0 (gx_mf cs0) nx0 0 0 _ hd (gx_mk (cs0 ++ G)) hle hpm
    have hsg : sx_Sg wsL_law M fr lo kd sd z σ (r0, L0, S0, gx_mk (cs0 ++ G), nx0) (rd, Ld, Sd, w1', nd) := hsg
    refine gx_conv fs θ (hsg.mono (Nat.le_refl _) (Nat.le_refl _) (Nat.le_of_ble_eq_true h2) (Nat.le_of_ble_eq_true h3)) h5 (Nat.le_of_ble_eq_true h6) (fun i c hi => ?_) h9 h10
    obtain ⟨hlt, hi⟩ := gx_mk_some hi
    rw [gx_lk_app] at hi
    cases hc : sx_lk cs1 i with
    | some c9 =>
      rw [hc] at hi
      cases hi
      have := List.all_eq_true.mp h8 _ (sx_lk_in hc)
      split at this
      · rename_i c' hc'
        exact Or.inl ⟨c', g1 _ _ hc', this⟩
      · cases this
    | none =>
      rw [hc] at hi
      have hq := hG _ (sx_lk_in hi)
      rw [Bool.and_eq_true, Bool.and_eq_true] at hq
      obtain ⟨⟨q1, q2⟩, q3⟩ := hq
      have q1 : i < P := Nat.le_of_ble_eq_true q1
      have q2 : sx_lk cs0 i = none := by
        cases e9 : sx_lk cs0 i with
        | none => rfl
        | some c9 =>
          have q2 : (sx_lk cs0 i).isNone = true := q2
          rw [e9] at q2
          cases q2
      have hP : P ≤ nx0 := Nat.le_of_ble_eq_true h7
      refine Or.inr ⟨q1, ?_, q3⟩
      have hn : fx_look 9 (gx_mf cs0) i = none := by
        cases e9 : fx_look 9 (gx_mf cs0) i with
        | none => rfl
        | some c9 => rw [gx_mf_look (gx_mf_lt e9), q2] at e9; cases e9
      have := (g2 i (Nat.lt_of_lt_of_le q1 hP) hn).2
      show sx_look 12 w1' i = some c
      rw [this, gx_mk_look hlt, gx_lk_app, q2]
      exact hi
theorem gx_macG {I : Nat → Bool} {B : sx_Bs} {f fr lo : Nat} {M : sx_M} {ts : List Nat} {c0 : gx_Z} {dk ds P : Nat} {fs : List (Nat × Nat)} {θ : List (Nat × sx_I)} {c1 : gx_Z} {G : List (Nat × sx_C)} {z : Nat → Nat} {σ : Nat → Int} (hM : ∃ mi, sx_p9 mi = some M) (hB : sx_okB σ B) (h : gx_ok I B f fr lo M ts c0 dk ds P fs θ c1 = true) (hθ : θ.all (fun q => Nat.blt q.1 1000) = true) (hG : gx_okG P θ c0.2.2.2.1 G = true) (hI : gx_okI I c0 G) : gx_G P M fr lo dk ds z σ (gx_pt c0 G) (sx_σi θ σ) (gx_pt c1 G) := ⟨gx_σ hθ, gx_mac hM hB h hG hI⟩
