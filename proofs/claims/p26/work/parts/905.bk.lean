/-- bounds, rows, state before, cells and slots, kept ids, names, unknowns, state behind -/
abbrev gx_D : Type := sx_Bs × List Nat × gx_Z × Nat × Nat × Nat × List (Nat × Nat) × List (Nat × sx_I) × gx_Z
noncomputable def gx_okD (M : sx_M) (fr lo : Nat) (d : gx_D) : Bool := gx_ok (fun _ => false) d.1 100000 fr lo M d.2.1 d.2.2.1 d.2.2.2.1 d.2.2.2.2.1 d.2.2.2.2.2.1 d.2.2.2.2.2.2.1 d.2.2.2.2.2.2.2.1 d.2.2.2.2.2.2.2.2
/-! worlds in blocks: each id has its block -/
def bk_c (i : Nat) : Nat := bif Nat.beq i 106 || Nat.beq i 231 then 4 else bif Nat.beq i 107 || Nat.beq i 232 then 5 else bif Nat.beq i 108 || Nat.beq i 233 then 6 else bif Nat.beq i 146 || Nat.beq i 271 then 7 else bif Nat.beq i 147 || Nat.beq i 272 then 8 else bif Nat.beq i 202 then 9 else bif Nat.beq i 220 then 10 else bif Nat.beq i 239 then 11 else bif Nat.beq i 240 then 12 else bif Nat.beq i 281 then 13 else bif (Nat.ble 160 i && Nat.blt i 200) || (Nat.ble 207 i && Nat.blt i 213) then 1 else bif (Nat.ble 100 i && Nat.blt i 140) || (Nat.ble 225 i && Nat.blt i 239) then 2 else bif (Nat.ble 140 i && Nat.blt i 160) || (Nat.ble 265 i && Nat.blt i 280) then 3 else bif Nat.beq i 0 || Nat.beq i 9 || (Nat.ble 30 i && Nat.blt i 40) then 14 else 0
def bk_ok (j : Nat) (l : List (Nat × sx_C)) : Bool := l.all (fun q => Nat.beq (bk_c q.1) j)
def bk_W (B : Nat → List (Nat × sx_C)) (ix : List Nat) : List (Nat × sx_C) := ix.flatMap B
def bk_all : List Nat := [0, 1, 2, 3, 4, 5, 6, 7, 8, 9, 10, 11, 12, 13, 14]
def bk_OK (B : Nat → List (Nat × sx_C)) : Prop := ∀ j ∈ bk_all, bk_ok j (B j) = true
theorem bk_lk {B : Nat → List (Nat × sx_C)} (i : Nat) : ∀ (ix : List Nat), (∀ j ∈ ix, bk_ok j (B j) = true) → ∀ c, sx_lk (bk_W B ix) i = some c ↔ (bk_c i ∈ ix ∧ sx_lk (B (bk_c i)) i = some c)
  | [], _, c => by
    constructor
    · intro h
      exact nomatch h
    · rintro ⟨h, -⟩
      exact nomatch h
  | j :: ix, h, c => by
    have IH := bk_lk (B := B) i ix (fun k hk => h k (List.mem_cons_of_mem _ hk)) c
    have e : bk_W B (j :: ix) = B j ++ bk_W B ix := rfl
    have own : ∀ c', sx_lk (B j) i = some c' → bk_c i = j := fun c' hc => by
      have := List.all_eq_true.mp (h j List.mem_cons_self) _ (sx_lk_in hc)
      exact Nat.eq_of_beq_eq_true this
    rw [e, gx_lk_app]
    cases hj : sx_lk (B j) i with
    | some c' =>
      have ej := own c' hj
      constructor
      · intro hc
        exact ⟨by rw [ej]; exact List.mem_cons_self, by rw [ej, hj]; exact hc⟩
      · rintro ⟨-, hc⟩
        rw [ej, hj] at hc
        exact hc
    | none =>
      show sx_lk (bk_W B ix) i = some c ↔ _
      rw [IH]
      constructor
      · rintro ⟨h1, h2⟩
        exact ⟨List.mem_cons_of_mem _ h1, h2⟩
      · rintro ⟨h1, h2⟩
        rcases List.mem_cons.mp h1 with h1 | h1
        · rw [h1, hj] at h2
          cases h2
        · exact ⟨h1, h2⟩
def bk_pt (r : Nat) (L : List (Nat × sx_V)) (S : List sx_V) (B : Nat → List (Nat × sx_C)) (nx : Nat) : sx_Pt := (r, L, S, gx_mk (bk_W B bk_all), nx)
/-- more is known before, less behind -/
theorem gx_H.sub {P : Nat} {M : sx_M} {fr lo dk ds : Nat} {z : Nat → Nat} {σ0 σ1 : Nat → Int} {r0 r1 nx0 nx1 : Nat} {L0 L1 : List (Nat × sx_V)} {S0 S1 : List sx_V} {w0 w0' w1 w1' : sx_W} (h : gx_H P M fr lo dk ds z σ0 (r0, L0, S0, w0, nx0) σ1 (r1, L1, S1, w1, nx1)) (h0 : ∀ i c, sx_look 12 w0 i = some c → sx_look 12 w0' i = some c) (h1 : ∀ i c, sx_look 12 w1' i = some c → sx_look 12 w1 i = some c) : gx_H P M fr lo dk ds z σ0 (r0, L0, S0, w0', nx0) σ1 (r1, L1, S1, w1', nx1) := by
  intro p l e R s m args below meth c Q D cA Fr A ρ k n hfr hlo hk hn C K
  have H := h p l e R s m args below meth c Q D cA Fr A ρ k n hfr hlo hk hn C (fun ρ' hg wl HH locs hI hS ls lv st hl hL hSt => K ρ' hg wl HH locs ⟨fun i c9 hc => hI.1 i c9 (h1 i c9 hc), hI.2⟩ hS ls lv st hl hL hSt)
  intro wl HH locs hI hS ls lv st hl hL hSt
  exact H wl HH locs ⟨fun i c9 hc => hI.1 i c9 (h0 i c9 hc), hI.2⟩ hS ls lv st hl hL hSt
theorem bk_inc {B B' : Nat → List (Nat × sx_C)} {ix ix' : List Nat} (hB : ∀ j ∈ ix, bk_ok j (B j) = true) (hB' : ∀ j ∈ ix', bk_ok j (B' j) = true) (h : ∀ j ∈ ix, j ∈ ix' ∧ B' j = B j) : ∀ i c, sx_look 12 (gx_mk (bk_W B ix)) i = some c → sx_look 12 (gx_mk (bk_W B' ix')) i = some c := by
  intro i c hi
  obtain ⟨hlt, hi⟩ := gx_mk_some hi
  rw [gx_mk_look hlt]
  obtain ⟨h1, h2⟩ := (bk_lk i ix hB c).mp hi
  obtain ⟨h3, h4⟩ := h _ h1
  exact (bk_lk i ix' hB' c).mpr ⟨h3, by rw [h4]; exact h2⟩
/-! a run used on a state that holds more, told otherwise before and behind -/
section BKV
variable {z : Nat → Nat} {σ : Nat → Int} {ρ : Nat → Option Nat}
def gq_i (θ : List (Nat × sx_I)) (c : sx_C) : sx_C := sx_iC (fun i => i) [] θ c
def gq_v (θ : List (Nat × sx_I)) (v : sx_V) : sx_V := sx_iV (fun i => i) [] θ v
theorem gq_σ {θ : List (Nat × sx_I)} (h : ∀ q ∈ θ, sx_ev σ q.2 = σ q.1) : sx_σi θ σ = σ := by
  funext u
  unfold sx_σi
  cases hu : sx_lk θ u with
  | none => rfl
  | some v => exact h _ (sx_lk_in hu)
theorem gq_fC {θ : List (Nat × sx_I)} {cA : Nat → ClassId} {c : sx_C} {e : va_E} (h : sx_RC ρ z (sx_σi θ σ) cA c e) : sx_RC ρ z σ cA (gq_i θ c) e :=
  sx_iC_fwd (f := fun i => i) (γ := []) (θ := θ) (ρ := ρ) (ρ1 := ρ) (ρ2 := ρ) (z := z) (σ := σ) (fun _ _ h => h) (sx_ge_rf ρ) (fun q hq => (nomatch hq)) (by rw [gx_zi]; exact h)
theorem gq_bC {θ : List (Nat × sx_I)} {cA : Nat → ClassId} {c : sx_C} {e : va_E} (h : sx_RC ρ z σ cA (gq_i θ c) e) : sx_RC ρ z (sx_σi θ σ) cA c e := by
  have := sx_iC_back (f := fun i => i) (γ := []) (θ := θ) (ρ := ρ) (ρ1 := ρ) (z := z) (σ := σ) (fun _ _ h => h) (fun q hq => (nomatch hq)) h
  rw [gx_zi] at this
  exact this
theorem gq_fV {θ : List (Nat × sx_I)} {v : sx_V} {x : Value} (h : sx_RV ρ z (sx_σi θ σ) v x) : sx_RV ρ z σ (gq_v θ v) x :=
  sx_iV_fwd (f := fun i => i) (γ := []) (θ := θ) (ρ := ρ) (ρ1 := ρ) (ρ2 := ρ) (z := z) (σ := σ) (fun _ _ h => h) (sx_ge_rf ρ) (fun q hq => (nomatch hq)) (by rw [gx_zi]; exact h)
theorem gq_bV {θ : List (Nat × sx_I)} {v : sx_V} {x : Value} (h : sx_RV ρ z σ (gq_v θ v) x) : sx_RV ρ z (sx_σi θ σ) v x := by
  have := sx_iV_back (f := fun i => i) (γ := []) (θ := θ) (ρ := ρ) (ρ1 := ρ) (z := z) (σ := σ) (fun _ _ h => h) (fun q hq => (nomatch hq)) h
  rw [gx_zi] at this
  exact this
theorem gq_wk {a p : sx_C} (h : gx_wk (fun i => i) [] a p = true) {cA : Nat → ClassId} {e : va_E} (hc : sx_RC ρ z σ cA a e) : sx_RC ρ z σ cA p e := by
  have := gx_wk_ok (f := fun i => i) (θ := []) (ρ := ρ) (ρ' := ρ) (z := z) (σ := σ) (fun _ _ h => h) h hc
  exact this
/-- lists of values, told by the one what is told by the other -/
def gq_L (f g : sx_V → sx_V) : List (Nat × sx_V) → List (Nat × sx_V) → Bool
  | [], [] => true
  | a :: s, b :: t => Nat.beq a.1 b.1 && sx_eqV (f a.2) (g b.2) && gq_L f g s t
  | _, _ => false
def gq_S (f g : sx_V → sx_V) : List sx_V → List sx_V → Bool
  | [], [] => true
  | a :: s, b :: t => sx_eqV (f a) (g b) && gq_S f g s t
  | _, _ => false
theorem gq_L_ok {σ' : Nat → Int} {f g : sx_V → sx_V} (hf : ∀ v x, sx_RV ρ z σ v x → sx_RV ρ z σ' (f v) x) {σ'' : Nat → Int} (hg : ∀ v x, sx_RV ρ z σ' (g v) x → sx_RV ρ z σ'' v x) : ∀ {L0 L1 : List (Nat × sx_V)} {lv : List (Nat × Value)}, gq_L f g L0 L1 = true → sx_RLs ρ z σ L0 lv → sx_RLs ρ z σ'' L1 lv
  | [], [], [], _, _ => trivial
  | [], [], _ :: _, _, h => h.elim
  | [], _ :: _, _, h, _ => by cases h
  | _ :: _, [], _, h, _ => by cases h
  | _ :: _, _ :: _, [], _, h => h.elim
  | a :: s, b :: t, x :: lv, h, hr => by
    have h : (Nat.beq a.1 b.1 && sx_eqV (f a.2) (g b.2) && gq_L f g s t) = true := h
    rw [Bool.and_eq_true, Bool.and_eq_true] at h
    obtain ⟨⟨h1, h2⟩, h3⟩ := h
    refine ⟨?_, ?_, gq_L_ok hf hg h3 hr.2.2⟩
    · rw [← Nat.eq_of_beq_eq_true h1]
      exact hr.1
    · refine hg _ _ ?_
      rw [← sx_eqV_ok h2]
      exact hf _ _ hr.2.1
theorem gq_S_ok {σ' : Nat → Int} {f g : sx_V → sx_V} (hf : ∀ v x, sx_RV ρ z σ v x → sx_RV ρ z σ' (f v) x) {σ'' : Nat → Int} (hg : ∀ v x, sx_RV ρ z σ' (g v) x → sx_RV ρ z σ'' v x) : ∀ {S0 S1 : List sx_V} {st : List Value}, gq_S f g S0 S1 = true → sx_RS ρ z σ S0 st → sx_RS ρ z σ'' S1 st
  | [], [], [], _, _ => trivial
  | [], [], _ :: _, _, h => h.elim
  | [], _ :: _, _, h, _ => by cases h
  | _ :: _, [], _, h, _ => by cases h
  | _ :: _, _ :: _, [], _, h => h.elim
  | a :: s, b :: t, x :: st, h, hr => by
    have h : (sx_eqV (f a) (g b) && gq_S f g s t) = true := h
    rw [Bool.and_eq_true] at h
    obtain ⟨h2, h3⟩ := h
    refine ⟨?_, gq_S_ok hf hg h3 hr.2⟩
    refine hg _ _ ?_
    rw [← sx_eqV_ok h2]
    exact hf _ _ hr.1
end BKV
/-- another telling of the same -/
theorem gx_H.pt {P : Nat} {M : sx_M} {fr lo : Nat} {z : Nat → Nat} {σ σ' : Nat → Int} {r nx : Nat} {L L' : List (Nat × sx_V)} {S S' : List sx_V} {w w' : sx_W} (hw : ∀ i c, sx_look 12 w' i = some c → ∃ c', sx_look 12 w i = some c' ∧ ∀ (cA : Nat → ClassId) (ρ : Nat → Option Nat) (e : va_E), sx_RC ρ z σ cA c' e → sx_RC ρ z σ' cA c e) (hL : ∀ (ρ : Nat → Option Nat) (lv : List (Nat × Value)), sx_RLs ρ z σ L lv → sx_RLs ρ z σ' L' lv) (hS : ∀ (ρ : Nat → Option Nat) (st : List Value), sx_RS ρ z σ S st → sx_RS ρ z σ' S' st) : gx_H P M fr lo 0 0 z σ (r, L, S, w, nx) σ' (r, L', S', w', nx) := by
  intro p l e R s m args below meth c Q D cA Fr A ρ k n hfr hlo hk hn C K
  intro wl HH locs hI hSS ls lv st hl hLv hSt
  refine K ρ (fun _ _ _ h => h) wl HH locs ⟨fun i c9 hc => ?_, hI.2⟩ hSS ls lv st hl (hL ρ lv hLv) (hS ρ st hSt)
  obtain ⟨c', h1, h2⟩ := hw i c9 hc
  obtain ⟨k9, a, e9, q1, q2, q3⟩ := hI.1 i c' h1
  exact ⟨k9, a, e9, q1, q2, h2 cA ρ e9 q3⟩
/-- what is known of unknowns: this expression lies between these numbers -/
abbrev bk_Fs : Type := List (sx_I × Int × Int)
theorem sx_ev1' (σ : Nat → Int) (u : Nat) : sx_ev σ (0, [(u, 1)]) = σ u := by
  show 0 + (1 * σ u + 0) = σ u
  omega
def bk_F (σ : Nat → Int) (F : bk_Fs) : Prop := ∀ q ∈ F, q.2.1 ≤ sx_ev σ q.1 ∧ sx_ev σ q.1 ≤ q.2.2
def bk_le (a b : Int) : Bool := decide (a ≤ b)
def bk_okB (F : bk_Fs) (Am : List (Nat × sx_I)) (B : sx_Bs) : Bool := B.all (fun b => F.any (fun q => sx_eqI q.1 (sx_iI Am (0, [(b.1, 1)])) && bk_le b.2.1 q.2.1 && bk_le q.2.2 b.2.2))
/-- R: a cell that stays -/
def bk_okR (P : Nat) (U : List (Nat × sx_I)) (R : List (Nat × sx_C)) : Bool := R.all (fun q => Nat.blt q.1 P && gx_lC P U q.2)
def bk_sub (a b : List (Nat × sx_I)) : Bool := a.all (fun q => b.any (fun x => Nat.beq x.1 q.1))
def bk_G (P : Nat) (U : List (Nat × sx_I)) (cs A : List (Nat × sx_C)) : List (Nat × sx_C) := A.filter (fun q => (sx_lk cs q.1).isNone && Nat.blt q.1 P && gx_lC P U q.2)
/-- the facts, the changed unknowns, the touched blocks; known equalities, the unknowns of the run, the new ones, the state before and behind (touched cells) -/
def bk_chk (d : gx_D) (F : bk_Fs) (U : List (Nat × sx_I)) (tx : List Nat) (θ0 Am Θ : List (Nat × sx_I)) (T0 T1 : gx_Z) : Bool :=
  bk_sub d.2.2.2.2.2.2.2.1 U && bk_sub Am U && bk_sub Θ U && bk_okB F Am d.1 &&
  Nat.beq T0.1 d.2.2.1.1 && Nat.beq T0.2.2.2.2 d.2.2.1.2.2.2.2 && Nat.beq T1.1 d.2.2.2.2.2.2.2.2.1 && Nat.beq T1.2.2.2.2 d.2.2.2.2.2.2.2.2.2.2.2.2 &&
  gq_L (gq_v θ0) (fun v => gq_v θ0 (gq_v Am v)) T0.2.1 d.2.2.1.2.1 && gq_S (gq_v θ0) (fun v => gq_v θ0 (gq_v Am v)) T0.2.2.1 d.2.2.1.2.2.1 &&
  gq_L (fun v => gq_v θ0 (gq_v Am (gq_v d.2.2.2.2.2.2.2.1 v))) (fun v => gq_v θ0 (gq_v Θ v)) d.2.2.2.2.2.2.2.2.2.1 T1.2.1 && gq_S (fun v => gq_v θ0 (gq_v Am (gq_v d.2.2.2.2.2.2.2.1 v))) (fun v => gq_v θ0 (gq_v Θ v)) d.2.2.2.2.2.2.2.2.2.2.1 T1.2.2.1 &&
  d.2.2.1.2.2.2.1.all (fun q => tx.any (Nat.beq (bk_c q.1)) && (match sx_lk T0.2.2.2.1 q.1 with
    | none => false
    | some c => gx_wk (fun i => i) [] (gq_i θ0 c) (gq_i θ0 (gq_i Am q.2)))) &&
  d.2.2.2.2.2.2.2.2.2.2.2.1.all (fun q => tx.any (Nat.beq (bk_c q.1))) &&
  T1.2.2.2.1.all (fun q => match sx_lk d.2.2.2.2.2.2.2.2.2.2.2.1 q.1 with
    | some c => gx_wk (fun i => i) [] (gq_i θ0 (gq_i Am (gq_i d.2.2.2.2.2.2.2.1 c))) (gq_i θ0 (gq_i Θ q.2))
    | none => match sx_lk (bk_G d.2.2.2.2.2.1 U d.2.2.1.2.2.2.1 T0.2.2.2.1) q.1 with
      | none => false
      | some c => sx_eqC c q.2) &&
  (bk_G d.2.2.2.2.2.1 U d.2.2.1.2.2.2.1 T0.2.2.2.1).all (fun q => match sx_lk T0.2.2.2.1 q.1 with
    | none => false
    | some c => sx_eqC c q.2)
theorem bk_lc {P : Nat} {U θ : List (Nat × sx_I)} (h : bk_sub θ U = true) {c : sx_C} (hc : gx_lC P U c = true) : gx_lC P θ c = true := by
  have key : ∀ u, (sx_lk U u).isNone = true → (sx_lk θ u).isNone = true := fun u hu => by
    cases e : sx_lk θ u with
    | none => rfl
    | some v =>
      have := List.all_eq_true.mp h _ (sx_lk_in e)
      obtain ⟨x, hx, ex⟩ := List.any_eq_true.mp this
      have ex := Nat.eq_of_beq_eq_true ex
      have ex : x.1 = u := ex
      have : ∀ (l : List (Nat × sx_I)), x ∈ l → (sx_lk l u).isNone = false := by
        intro l
        induction l with
        | nil => exact fun h => nomatch h
        | cons q t ih =>
          intro hm
          show ((bif Nat.beq q.1 u then some q.2 else sx_lk t u)).isNone = false
          rcases List.mem_cons.mp hm with rfl | hm
          · rw [ex, Nat.beq_refl]
            rfl
          · cases Nat.beq q.1 u with
            | true => rfl
            | false => exact ih hm
      rw [this U hx] at hu
      cases hu
  have lI : ∀ {e : sx_I}, gx_lI U e = true → gx_lI θ e = true := fun {e} h => List.all_eq_true.mpr fun q hq => key _ (List.all_eq_true.mp h q hq)
  have lV : ∀ {v : sx_V}, gx_lV P U v = true → gx_lV P θ v = true := fun {v} h => by
    match v, h with
    | .inl (.inl e), h => exact lI h
    | .inl (.inr _), h => exact h
    | .inr (.inl e), h => exact lI h
    | .inr (.inr none), h => exact h
    | .inr (.inr (some (.inl i))), h => exact h
    | .inr (.inr (some (.inr i))), h => exact h
  match c, hc with
  | .inl o, h =>
    refine List.all_eq_true.mpr fun v hv => ?_
    have := List.all_eq_true.mp h v hv
    cases v with
    | none => rfl
    | some v => exact lV this
  | .inr x, h => exact List.all_eq_true.mpr fun q hq => lV (List.all_eq_true.mp h q hq)
theorem bk_back {P : Nat} {z : Nat → Nat} {σ : Nat → Int} {ρ : Nat → Option Nat} {θ : List (Nat × sx_I)} {cA : Nat → ClassId} {c : sx_C} {e : va_E} (hc : gx_lC P θ c = true) (h : sx_RC ρ z (sx_σi θ σ) cA c e) : sx_RC ρ z σ cA c e := by
  have lkm : ∀ (l : List (Nat × sx_I)) (i : Nat), sx_lk (l.map (fun q => (q.1, ((σ q.1, []) : sx_I)))) i = (sx_lk l i).map (fun _ => ((σ i, []) : sx_I)) := by
    intro l i
    induction l with
    | nil => rfl
    | cons q t ih =>
      show (bif Nat.beq q.1 i then some ((σ q.1, []) : sx_I) else sx_lk (t.map _) i) = (bif Nat.beq q.1 i then some q.2 else sx_lk t i).map _
      rw [ih]
      cases hb : Nat.beq q.1 i with
      | true =>
        rw [Nat.eq_of_beq_eq_true hb]
        rfl
      | false => rfl
  have e1 : sx_σi (θ.map (fun q => (q.1, ((σ q.1, []) : sx_I)))) (sx_σi θ σ) = σ := by
    funext u
    unfold sx_σi
    rw [lkm]
    cases hu : sx_lk θ u with
    | none => rfl
    | some v => exact sx_ev_c _ _
  have h2 : gx_lC P (θ.map (fun q => (q.1, ((σ q.1, []) : sx_I)))) c = true := by
    refine bk_lc (List.all_eq_true.mpr fun q hq => ?_) hc
    obtain ⟨x, hx, rfl⟩ := List.mem_map.mp hq
    exact List.any_eq_true.mpr ⟨x, hx, Nat.beq_refl _⟩
  have := gx_lC_ok (P := P) (ρ := ρ) (ρ' := ρ) (z := z) (σ := sx_σi θ σ) (θ := θ.map (fun q => (q.1, ((σ q.1, []) : sx_I)))) (fun _ _ _ h => h) h2 h
  rw [e1] at this
  exact this
theorem bk_T {M : sx_M} {fr lo : Nat} {d : gx_D} {z : Nat → Nat} {σ : Nat → Int} (hM : ∃ mi, sx_p9 mi = some M) (hok : gx_okD M fr lo d = true) {F : bk_Fs} {U : List (Nat × sx_I)} {tx rx : List Nat} {θ0 Am Θ : List (Nat × sx_I)} {B0 B1 : Nat → List (Nat × sx_C)} {r0 r1 nx0 nx1 : Nat} {L0 L1 : List (Nat × sx_V)} {S0 S1 : List sx_V} {A0 A1 : List (Nat × sx_C)} (hchk : bk_chk d F U tx θ0 Am Θ (r0, L0, S0, A0, nx0) (r1, L1, S1, A1, nx1) = true) (hA0 : A0 = bk_W B0 tx) (hA1 : A1 = bk_W B1 tx) (hB0 : bk_OK B0) (hB1 : bk_OK B1) (hR : ∀ j ∈ rx, B1 j = B0 j ∧ bk_okR d.2.2.2.2.2.1 U (B0 j) = true) (hE : ∀ j ∈ bk_all, j ∈ tx ∨ j ∈ rx ∨ B1 j = []) (hx : (tx ++ rx).all (fun j => bk_all.any (Nat.beq j)) = true) (hd : tx.all (fun j => !rx.any (Nat.beq j)) = true) (hF : bk_F σ F) (hθ : ∀ q ∈ θ0, sx_ev σ q.2 = σ q.1) :
    gx_H d.2.2.2.2.2.1 M fr lo d.2.2.2.1 d.2.2.2.2.1 z σ (bk_pt r0 L0 S0 B0 nx0) (sx_σi Θ σ) (bk_pt r1 L1 S1 B1 nx1) := by
  subst hA0 hA1
  obtain ⟨Bs, ts, ⟨rc0, Lc0, Sc0, cs0, nc0⟩, dk, ds, P, fs, θ, ⟨rc1, Lc1, Sc1, cs1, nc1⟩⟩ := d
  unfold bk_chk at hchk
  simp only at hchk
  simp only [Bool.and_eq_true] at hchk
  obtain ⟨⟨⟨⟨⟨⟨⟨⟨⟨⟨⟨⟨⟨⟨⟨k1, k2⟩, k3⟩, k4⟩, k5⟩, k6⟩, k7⟩, k8⟩, k9⟩, k10⟩, k11⟩, k12⟩, k13⟩, k14⟩, k15⟩, k16⟩ := hchk
  have e5 := Nat.eq_of_beq_eq_true k5
  have e6 := Nat.eq_of_beq_eq_true k6
  have e7 := Nat.eq_of_beq_eq_true k7
  have e8 := Nat.eq_of_beq_eq_true k8
  subst e5 e6 e7 e8
  have mem : ∀ {l : List Nat} {j : Nat}, l.any (Nat.beq j) = true → j ∈ l := fun {l j} hj => by
    obtain ⟨x, hx, e⟩ := List.any_eq_true.mp hj
    rw [Nat.eq_of_beq_eq_true e]
    exact hx
  have mx : ∀ j ∈ tx ++ rx, j ∈ bk_all := fun j hj => mem (List.all_eq_true.mp hx j hj)
  have dis : ∀ j, j ∈ tx → j ∈ rx → False := fun j h1 h2 => by
    have := List.all_eq_true.mp hd j h1
    rw [show rx.any (Nat.beq j) = true from List.any_eq_true.mpr ⟨j, h2, Nat.beq_refl j⟩] at this
    cases this
  have hσ0 : sx_σi θ0 σ = σ := gq_σ hθ
  have tB0 : ∀ j ∈ tx, bk_ok j (B0 j) = true := fun j hj => hB0 j (mx j (List.mem_append_left _ hj))
  have tB1 : ∀ j ∈ tx, bk_ok j (B1 j) = true := fun j hj => hB1 j (mx j (List.mem_append_left _ hj))
  have rB0 : ∀ j ∈ rx, bk_ok j (B0 j) = true := fun j hj => hB0 j (mx j (List.mem_append_right _ hj))
  have hBs : sx_okB (sx_σi Am σ) Bs := by
    intro b hb
    have := List.all_eq_true.mp k4 b hb
    obtain ⟨q, hq, e⟩ := List.any_eq_true.mp this
    rw [Bool.and_eq_true, Bool.and_eq_true] at e
    obtain ⟨⟨e1, e2⟩, e3⟩ := e
    have h9 := hF q hq
    have ev : sx_ev σ q.1 = sx_σi Am σ b.1 := by
      rw [sx_eqI_ok e1, sx_iI_ev, sx_ev1']
    have e2 : b.2.1 ≤ q.2.1 := of_decide_eq_true e2
    have e3 : q.2.2 ≤ b.2.2 := of_decide_eq_true e3
    rw [ev] at h9
    exact ⟨Int.le_trans e2 h9.1, Int.le_trans h9.2 e3⟩
  have hG1 : ∀ q ∈ bk_G P U cs0 (bk_W B0 tx), (sx_lk cs0 q.1).isNone = true ∧ q.1 < P ∧ gx_lC P U q.2 = true ∧ q ∈ bk_W B0 tx := fun q hq => by
    obtain ⟨h1, h2⟩ := List.mem_filter.mp hq
    rw [Bool.and_eq_true, Bool.and_eq_true] at h2
    exact ⟨h2.1.1, Nat.le_of_ble_eq_true h2.1.2, h2.2, h1⟩
  have hG2 : ∀ i c, sx_lk (bk_G P U cs0 (bk_W B0 tx)) i = some c → sx_lk (bk_W B0 tx) i = some c := fun i c hi => by
    have := List.all_eq_true.mp k16 _ (sx_lk_in hi)
    simp only at this
    split at this
    · cases this
    · rename_i c9 hc9
      rw [hc9, sx_eqC_ok this]
  have hR1 : ∀ q ∈ bk_W B0 rx, q.1 < P ∧ gx_lC P U q.2 = true ∧ bk_c q.1 ∈ rx := fun q hq => by
    obtain ⟨j, hj, hq⟩ := List.mem_flatMap.mp hq
    have := List.all_eq_true.mp (hR j hj).2 q hq
    rw [Bool.and_eq_true] at this
    have own := Nat.eq_of_beq_eq_true (List.all_eq_true.mp (rB0 j hj) q hq)
    exact ⟨Nat.le_of_ble_eq_true this.1, this.2, by rw [own]; exact hj⟩
  have hc0 : ∀ q ∈ cs0, bk_c q.1 ∈ tx := fun q hq => by
    have := List.all_eq_true.mp k13 q hq
    rw [Bool.and_eq_true] at this
    exact mem this.1
  have hc1 : ∀ q ∈ cs1, bk_c q.1 ∈ tx := fun q hq => mem (List.all_eq_true.mp k14 q hq)
  have hok9 : gx_okG P θ cs0 (bk_G P U cs0 (bk_W B0 tx) ++ bk_W B0 rx) = true := by
    refine List.all_eq_true.mpr fun q hq => ?_
    rw [Bool.and_eq_true, Bool.and_eq_true]
    rcases List.mem_append.mp hq with hq | hq
    · obtain ⟨h1, h2, h3, -⟩ := hG1 q hq
      exact ⟨⟨Nat.ble_eq_true_of_le h2, h1⟩, bk_lc k1 h3⟩
    · obtain ⟨h1, h2, h3⟩ := hR1 q hq
      refine ⟨⟨Nat.ble_eq_true_of_le h1, ?_⟩, bk_lc k1 h2⟩
      cases e : sx_lk cs0 q.1 with
      | none => rfl
      | some c9 => exact (dis _ (hc0 _ (sx_lk_in e)) h3).elim
  have key := gx_mac (z := z) hM hBs hok hok9 (fun j hj => (by cases hj))
  have s1 : gx_H P M fr lo 0 0 z σ (bk_pt r0 L0 S0 B0 nx0) (sx_σi Am σ) (r0, Lc0, Sc0, gx_mk (cs0 ++ (bk_G P U cs0 (bk_W B0 tx) ++ bk_W B0 rx)), nx0) := by
    have fV : ∀ (ρ : Nat → Option Nat) (v : sx_V) (x : Value), sx_RV ρ z σ v x → sx_RV ρ z σ (gq_v θ0 v) x := fun ρ v x h => gq_fV (by rw [hσ0]; exact h)
    have gV : ∀ (ρ : Nat → Option Nat) (v : sx_V) (x : Value), sx_RV ρ z σ (gq_v θ0 (gq_v Am v)) x → sx_RV ρ z (sx_σi Am σ) v x := fun ρ v x h => gq_bV (by have := gq_bV h; rw [hσ0] at this; exact this)
    refine gx_H.pt (fun i c hi => ?_) (fun ρ lv h => gq_L_ok (fV ρ) (gV ρ) k9 h) (fun ρ st h => gq_S_ok (fV ρ) (gV ρ) k10 h)
    obtain ⟨hlt, hi⟩ := gx_mk_some hi
    rw [gx_lk_app] at hi
    cases hc : sx_lk cs0 i with
    | some c9 =>
      rw [hc] at hi
      cases hi
      have hq := List.all_eq_true.mp k13 _ (sx_lk_in hc)
      rw [Bool.and_eq_true] at hq
      have hq := hq.2
      simp only at hq
      split at hq
      · cases hq
      · rename_i c9 hc9
        refine ⟨c9, ?_, fun cA ρ e h => ?_⟩
        · rw [gx_mk_look hlt]
          obtain ⟨a1, a2⟩ := (bk_lk i tx tB0 c9).mp hc9
          exact (bk_lk i bk_all hB0 c9).mpr ⟨mx _ (List.mem_append_left _ a1), a2⟩
        · have h1 := gq_wk (ρ := ρ) (z := z) (σ := σ) hq (gq_fC (θ := θ0) (by rw [hσ0]; exact h))
          have h2 := gq_bC h1
          rw [hσ0] at h2
          exact gq_bC h2
    | none =>
      rw [hc] at hi
      have hi : sx_lk (bk_G P U cs0 (bk_W B0 tx) ++ bk_W B0 rx) i = some c := hi
      rw [gx_lk_app] at hi
      cases hg : sx_lk (bk_G P U cs0 (bk_W B0 tx)) i with
      | some c9 =>
        rw [hg] at hi
        have hi := Option.some.inj hi
        subst hi
        refine ⟨c9, ?_, fun cA ρ e h => gx_lC_ok (P := P) (fun _ _ _ h => h) (bk_lc k2 (hG1 _ (sx_lk_in hg)).2.2.1) h⟩
        rw [gx_mk_look hlt]
        obtain ⟨a1, a2⟩ := (bk_lk i tx tB0 c9).mp (hG2 _ _ hg)
        exact (bk_lk i bk_all hB0 c9).mpr ⟨mx _ (List.mem_append_left _ a1), a2⟩
      | none =>
        rw [hg] at hi
        have hi : sx_lk (bk_W B0 rx) i = some c := hi
        refine ⟨c, ?_, fun cA ρ e h => gx_lC_ok (P := P) (fun _ _ _ h => h) (bk_lc k2 (hR1 _ (sx_lk_in hi)).2.1) h⟩
        rw [gx_mk_look hlt]
        obtain ⟨a1, a2⟩ := (bk_lk i rx rB0 c).mp hi
        exact (bk_lk i bk_all hB0 c).mpr ⟨mx _ (List.mem_append_right _ a1), a2⟩
  have s3 : gx_H P M fr lo 0 0 z (sx_σi θ (sx_σi Am σ)) (r1, Lc1, Sc1, gx_mk (cs1 ++ (bk_G P U cs0 (bk_W B0 tx) ++ bk_W B0 rx)), nx1) (sx_σi Θ σ) (bk_pt r1 L1 S1 B1 nx1) := by
    have fV : ∀ (ρ : Nat → Option Nat) (v : sx_V) (x : Value), sx_RV ρ z (sx_σi θ (sx_σi Am σ)) v x → sx_RV ρ z σ (gq_v θ0 (gq_v Am (gq_v θ v))) x := fun ρ v x h => gq_fV (by rw [hσ0]; exact gq_fV (gq_fV h))
    have gV : ∀ (ρ : Nat → Option Nat) (v : sx_V) (x : Value), sx_RV ρ z σ (gq_v θ0 (gq_v Θ v)) x → sx_RV ρ z (sx_σi Θ σ) v x := fun ρ v x h => gq_bV (by have := gq_bV h; rw [hσ0] at this; exact this)
    have stay : ∀ (cA : Nat → ClassId) (ρ : Nat → Option Nat) (e : va_E) (c : sx_C), gx_lC P U c = true → sx_RC ρ z (sx_σi θ (sx_σi Am σ)) cA c e → sx_RC ρ z (sx_σi Θ σ) cA c e := fun cA ρ e c hc h =>
      gx_lC_ok (P := P) (fun _ _ _ h => h) (bk_lc k3 hc) (bk_back (bk_lc k2 hc) (bk_back (bk_lc k1 hc) h))
    refine gx_H.pt (fun i c hi => ?_) (fun ρ lv h => gq_L_ok (fV ρ) (gV ρ) k11 h) (fun ρ st h => gq_S_ok (fV ρ) (gV ρ) k12 h)
    obtain ⟨hlt, hi⟩ := gx_mk_some hi
    obtain ⟨j1, j2⟩ := (bk_lk i bk_all hB1 c).mp hi
    rcases hE _ j1 with ht | ht | ht
    · have hq := List.all_eq_true.mp k15 _ (sx_lk_in ((bk_lk i tx tB1 c).mpr ⟨ht, j2⟩))
      simp only at hq
      split at hq
      · rename_i c9 hc9
        refine ⟨c9, ?_, fun cA ρ e h => ?_⟩
        · rw [gx_mk_look hlt, gx_lk_app, hc9]
        · have h1 := gq_wk (ρ := ρ) (z := z) (σ := σ) hq (gq_fC (θ := θ0) (by rw [hσ0]; exact gq_fC (gq_fC h)))
          have h2 := gq_bC h1
          rw [hσ0] at h2
          exact gq_bC h2
      · rename_i hn
        split at hq
        · cases hq
        · rename_i c9 hc9
          have := sx_eqC_ok hq
          subst this
          refine ⟨c9, ?_, fun cA ρ e h => stay cA ρ e _ (hG1 _ (sx_lk_in hc9)).2.2.1 h⟩
          rw [gx_mk_look hlt, gx_lk_app, hn]
          show sx_lk (bk_G P U cs0 (bk_W B0 tx) ++ bk_W B0 rx) i = _
          rw [gx_lk_app, hc9]
    · have e1 : B1 (bk_c i) = B0 (bk_c i) := (hR _ ht).1
      rw [e1] at j2
      have hi2 := (bk_lk i rx rB0 c).mpr ⟨ht, j2⟩
      have hn1 : sx_lk cs1 i = none := by
        cases e : sx_lk cs1 i with
        | none => rfl
        | some c9 => exact (dis _ (hc1 _ (sx_lk_in e)) ht).elim
      have hn2 : sx_lk (bk_G P U cs0 (bk_W B0 tx)) i = none := by
        cases e : sx_lk (bk_G P U cs0 (bk_W B0 tx)) i with
        | none => rfl
        | some c9 => exact (dis _ ((bk_lk i tx tB0 c9).mp (hG2 _ _ e)).1 ht).elim
      refine ⟨c, ?_, fun cA ρ e h => stay cA ρ e _ (hR1 _ (sx_lk_in hi2)).2.1 h⟩
      rw [gx_mk_look hlt, gx_lk_app, hn1]
      show sx_lk (bk_G P U cs0 (bk_W B0 tx) ++ bk_W B0 rx) i = _
      rw [gx_lk_app, hn2]
      exact hi2
    · rw [ht] at j2
      cases j2
  have := gx_H.tr (Nat.le_refl P) (Nat.le_refl P) (gx_H.tr (Nat.le_refl P) (Nat.le_refl P) s1 key) s3
  refine gx_H.mono this (Nat.le_refl _) (Nat.le_refl _) (Nat.le_refl _) (by omega) (by omega)
