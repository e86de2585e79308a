/-! is and told called by the law; the law's loops -/
section GI
variable {U U' : List (Nat × sx_I)}
theorem gi_I (h : ∀ u, (sx_lk U u).isNone = (sx_lk U' u).isNone) (e : sx_I) : gx_lI U e = gx_lI U' e := by
  unfold gx_lI
  simp only [h]
theorem gi_V (h : ∀ u, (sx_lk U u).isNone = (sx_lk U' u).isNone) (P : Nat) (v : sx_V) : gx_lV P U v = gx_lV P U' v := by
  match v with
  | .inl (.inl e) => exact gi_I h e
  | .inl (.inr _) => rfl
  | .inr (.inl e) => exact gi_I h e
  | .inr (.inr none) => rfl
  | .inr (.inr (some (.inl i))) => rfl
  | .inr (.inr (some (.inr i))) => rfl
theorem gi_C (h : ∀ u, (sx_lk U u).isNone = (sx_lk U' u).isNone) (P : Nat) (c : sx_C) : gx_lC P U c = gx_lC P U' c := by
  have e : gx_lV P U = gx_lV P U' := funext (gi_V h P)
  unfold gx_lC
  rw [e]
theorem gi_R (h : ∀ u, (sx_lk U u).isNone = (sx_lk U' u).isNone) {P : Nat} {l : List (Nat × sx_C)} (hl : bk_okR P U l = true) : bk_okR P U' l = true := by
  have e : gx_lC P U = gx_lC P U' := funext (gi_C h P)
  unfold bk_okR at hl ⊢
  rw [← e]
  exact hl
theorem gi_RLs {ρ : Nat → Option Nat} {z : Nat → Nat} {σ : Nat → Int} : ∀ {L : List (Nat × sx_V)} {lv : List (Nat × Value)}, L.all (fun q => gx_lV 290 U q.2) = true → sx_RLs ρ z σ L lv → sx_RLs ρ z (sx_σi U σ) L lv
  | [], [], _, _ => trivial
  | [], _ :: _, _, h => h.elim
  | _ :: _, [], _, h => h.elim
  | v :: vs, x :: xs, hk, h => by
    rw [List.all_cons, Bool.and_eq_true] at hk
    exact ⟨h.1, gx_lV_ok (fun _ _ _ h9 => h9) hk.1 h.2.1, gi_RLs hk.2 h.2.2⟩
theorem gi_RS {ρ : Nat → Option Nat} {z : Nat → Nat} {σ : Nat → Int} : ∀ {S : List sx_V} {st : List Value}, S.all (fun v => gx_lV 290 U v) = true → sx_RS ρ z σ S st → sx_RS ρ z (sx_σi U σ) S st
  | [], [], _, _ => trivial
  | [], _ :: _, _, h => h.elim
  | _ :: _, [], _, h => h.elim
  | v :: vs, x :: xs, hk, h => by
    rw [List.all_cons, Bool.and_eq_true] at hk
    exact ⟨gx_lV_ok (fun _ _ _ h9 => h9) hk.1 h.1, gi_RS hk.2 h.2⟩
/-- unknowns that stand nowhere are given values -/
theorem gi_set {B : Nat → List (Nat × sx_C)} (hB : bk_OK B) (hU : ∀ j ∈ bk_all, bk_okR 290 U (B j) = true) {M : sx_M} {fr lo r : Nat} {z : Nat → Nat} {σ : Nat → Int} {L : List (Nat × sx_V)} {S : List sx_V} (hL : L.all (fun q => gx_lV 290 U q.2) = true) (hS : S.all (fun v => gx_lV 290 U v) = true) : gx_H 40 M fr lo 0 0 z σ (bk_pt r L S B 300) (sx_σi U σ) (bk_pt r L S B 300) := by
  refine gx_H.pt (fun i c hi => ⟨c, hi, fun cA ρ e hc => ?_⟩) (fun ρ lv h => gi_RLs hL h) (fun ρ st h => gi_RS hS h)
  obtain ⟨hlt, hi⟩ := gx_mk_some hi
  obtain ⟨h1, h2⟩ := (bk_lk i bk_all hB c).mp hi
  have h3 := List.all_eq_true.mp (hU _ h1) _ (sx_lk_in h2)
  rw [Bool.and_eq_true] at h3
  exact gx_lC_ok (fun _ _ _ h9 => h9) h3.2 hc
end GI
def gi_U (a b c : Int) : List (Nat × sx_I) := [(41, (a, [])), (42, (b, [])), (43, (c, []))]
theorem gi_Uk (a b c : Int) (u : Nat) : (sx_lk (gi_U 0 0 0) u).isNone = (sx_lk (gi_U a b c) u).isNone := by
  show (bif Nat.beq 41 u then some (0, []) else bif Nat.beq 42 u then some (0, []) else bif Nat.beq 43 u then some (0, []) else none : Option sx_I).isNone = (bif Nat.beq 41 u then some (a, []) else bif Nat.beq 42 u then some (b, []) else bif Nat.beq 43 u then some (c, []) else none : Option sx_I).isNone
  cases Nat.beq 41 u <;> cases Nat.beq 42 u <;> cases Nat.beq 43 u <;> rfl
theorem gi_lo {a b c : Int} {σ : Nat → Int} {u : Nat} (h : u < 41 ∨ 43 < u) : sx_σi (gi_U a b c) σ u = σ u := gs_none (by
  show (bif Nat.beq 41 u then some (a, []) else bif Nat.beq 42 u then some (b, []) else bif Nat.beq 43 u then some (c, []) else none : Option sx_I).isNone = true
  cases e1 : Nat.beq 41 u with
  | true => exact absurd (Nat.eq_of_beq_eq_true e1) (by omega)
  | false => cases e2 : Nat.beq 42 u with
    | true => exact absurd (Nat.eq_of_beq_eq_true e2) (by omega)
    | false => cases e3 : Nat.beq 43 u with
      | true => exact absurd (Nat.eq_of_beq_eq_true e3) (by omega)
      | false => rfl)
theorem gi_b0 : ∀ g h j r : Bool, bk_okR 290 (gi_U 0 0 0) (kb_OPEN_0 g h j r) = true := by decide +kernel
theorem gi_b1 : ∀ a b c : Bool, bk_okR 290 (gi_U 0 0 0) (g1b a b c) = true := by decide +kernel
theorem gi_b2 : ∀ d e f : Bool, bk_okR 290 (gi_U 0 0 0) (g2b d e f) = true := by decide +kernel
theorem gi_b3 : ∀ g h j : Bool, bk_okR 290 (gi_U 0 0 0) (cond j (g3c g h) (g3b g h)) = true := by decide +kernel
theorem gi_b4 : ∀ d y : Bool, bk_okR 290 (gi_U 0 0 0) (gD1 d y) = true := by decide +kernel
theorem gi_b5 : ∀ e : Bool, bk_okR 290 (gi_U 0 0 0) (gE1 e) = true := by decide +kernel
theorem gi_b6 : ∀ f : Bool, bk_okR 290 (gi_U 0 0 0) (gF1 f) = true := by decide +kernel
theorem gi_b7 : ∀ g j : Bool, bk_okR 290 (gi_U 0 0 0) (cond j (gG0 g) (gG1 g)) = true := by decide +kernel
theorem gi_b8 : ∀ h j : Bool, bk_okR 290 (gi_U 0 0 0) (cond j (gH1 h) (gH0 h)) = true := by decide +kernel
theorem gi_b9 : ∀ d v y : Bool, bk_okR 290 (gi_U 0 0 0) (kb_QG_9 d v y) = true := by decide +kernel
theorem gi_b10 : ∀ d e f y : Bool, bk_okR 290 (gi_U 0 0 0) (kb_QC_10 d e f y) = true := by decide +kernel
theorem gi_b11 : ∀ y : Bool, bk_okR 290 (gi_U 0 0 0) (gY y) = true := by decide +kernel
theorem gi_b12 : ∀ v : Bool, bk_okR 290 (gi_U 0 0 0) (gV v) = true := by decide +kernel
theorem gi_b13 : ∀ r : Bool, bk_okR 290 (gi_U 0 0 0) (gW r) = true := by decide +kernel
theorem gi_b14 : bk_okR 290 (gi_U 0 0 0) gn_LB = true := by decide +kernel
theorem gi_OPEN (a b c d e f g h y v j r : Bool) : ∀ i ∈ bk_all, bk_okR 290 (gi_U 0 0 0) (gp_OPEN a b c d e f g h y v j r gn_LB i) = true :=
  bk_all_mem (gi_b0 g h j r) (gi_b1 a b c) (gi_b2 d e f) (gi_b3 g h j) (gi_b4 d y) (gi_b5 e) (gi_b6 f) (gi_b7 g j) (gi_b8 h j) (gi_b9 d v y) (gi_b10 d e f y) (gi_b11 y) (gi_b12 v) (gi_b13 r) gi_b14
def gi_L : List (Nat × sx_V) := [(0, .inr (.inr (some (.inl 0)))), (1, .inr (.inl (.ofNat 0, [(1042, .ofNat 1)])))]
/-- is answers yes -/
theorem gi_dig (s : gr_S) (k m j r : Bool) {z : Nat → Nat} {σ : Nat → Int} {w a b c : Int} (h41 : σ 41 = a) (h42 : σ 42 = b) (h43 : σ 43 = c) (hw : σ 1042 = w) (hc : σ (cond r 15 (cond j 36 35)) = w)
    (hd : w = 0 ∨ (w = c ∧ 1 ≤ c ∧ c ≤ 9) ∨ (w = 10 * b + c ∧ 1 ≤ b ∧ b ≤ 9 ∧ 0 ≤ c ∧ c ≤ 9) ∨ (w = 100 * a + 10 * b + c ∧ 1 ≤ a ∧ a ≤ 9 ∧ 0 ≤ b ∧ b ≤ 9 ∧ 0 ≤ c ∧ c ≤ 9) ∨ (w = -c ∧ 1 ≤ c ∧ c ≤ 9) ∨ (w = -(10 * b + c) ∧ 1 ≤ b ∧ b ≤ 9 ∧ 0 ≤ c ∧ c ≤ 9) ∨ (w = -(100 * a + 10 * b + c) ∧ 1 ≤ a ∧ a ≤ 9 ∧ 0 ≤ b ∧ b ≤ 9 ∧ 0 ≤ c ∧ c ≤ 9)) :
    gx_H 40 sm_L_is 17 690 0 0 z σ (bk_pt 0 gi_L [] (bOPEN s k m j r) 300) σ (bk_pt 66 [] [gn_c 1] (bOPEN s k m j r) 300) := by
  rcases hd with hd | hd | hd | hd | hd | hd | hd
  · cases j <;> cases r
    · have hc : σ 35 = w := hc
      exact tn_is_00_00 s.a s.b s.c s.d s.e s.f s.g s.h k m (by (repeat' (first | exact bk_F0 | (refine bk_F1 ?_ ?_))) <;> (simp only [sx_ev, sx_evl, gs_ofNat, gs_neg] ; omega)) (by (repeat' (first | exact gs_t0 | (refine gs_t1 ?_ ?_))) <;> (simp only [sx_ev, sx_evl, gs_ofNat, gs_neg] ; omega))
    · have hc : σ 15 = w := hc
      exact tn_is_00_01 s.a s.b s.c s.d s.e s.f s.g s.h k m (by (repeat' (first | exact bk_F0 | (refine bk_F1 ?_ ?_))) <;> (simp only [sx_ev, sx_evl, gs_ofNat, gs_neg] ; omega)) (by (repeat' (first | exact gs_t0 | (refine gs_t1 ?_ ?_))) <;> (simp only [sx_ev, sx_evl, gs_ofNat, gs_neg] ; omega))
    · have hc : σ 36 = w := hc
      exact tn_is_00_10 s.a s.b s.c s.d s.e s.f s.g s.h k m (by (repeat' (first | exact bk_F0 | (refine bk_F1 ?_ ?_))) <;> (simp only [sx_ev, sx_evl, gs_ofNat, gs_neg] ; omega)) (by (repeat' (first | exact gs_t0 | (refine gs_t1 ?_ ?_))) <;> (simp only [sx_ev, sx_evl, gs_ofNat, gs_neg] ; omega))
    · have hc : σ 15 = w := hc
      exact tn_is_00_11 s.a s.b s.c s.d s.e s.f s.g s.h k m (by (repeat' (first | exact bk_F0 | (refine bk_F1 ?_ ?_))) <;> (simp only [sx_ev, sx_evl, gs_ofNat, gs_neg] ; omega)) (by (repeat' (first | exact gs_t0 | (refine gs_t1 ?_ ?_))) <;> (simp only [sx_ev, sx_evl, gs_ofNat, gs_neg] ; omega))
  · cases j <;> cases r
    · have hc : σ 35 = w := hc
      exact tn_is_01_00 s.a s.b s.c s.d s.e s.f s.g s.h k m (by (repeat' (first | exact bk_F0 | (refine bk_F1 ?_ ?_))) <;> (simp only [sx_ev, sx_evl, gs_ofNat, gs_neg] ; omega)) (by (repeat' (first | exact gs_t0 | (refine gs_t1 ?_ ?_))) <;> (simp only [sx_ev, sx_evl, gs_ofNat, gs_neg] ; omega))
    · have hc : σ 15 = w := hc
      exact tn_is_01_01 s.a s.b s.c s.d s.e s.f s.g s.h k m (by (repeat' (first | exact bk_F0 | (refine bk_F1 ?_ ?_))) <;> (simp only [sx_ev, sx_evl, gs_ofNat, gs_neg] ; omega)) (by (repeat' (first | exact gs_t0 | (refine gs_t1 ?_ ?_))) <;> (simp only [sx_ev, sx_evl, gs_ofNat, gs_neg] ; omega))
    · have hc : σ 36 = w := hc
      exact tn_is_01_10 s.a s.b s.c s.d s.e s.f s.g s.h k m (by (repeat' (first | exact bk_F0 | (refine bk_F1 ?_ ?_))) <;> (simp only [sx_ev, sx_evl, gs_ofNat, gs_neg] ; omega)) (by (repeat' (first | exact gs_t0 | (refine gs_t1 ?_ ?_))) <;> (simp only [sx_ev, sx_evl, gs_ofNat, gs_neg] ; omega))
    · have hc : σ 15 = w := hc
      exact tn_is_01_11 s.a s.b s.c s.d s.e s.f s.g s.h k m (by (repeat' (first | exact bk_F0 | (refine bk_F1 ?_ ?_))) <;> (simp only [sx_ev, sx_evl, gs_ofNat, gs_neg] ; omega)) (by (repeat' (first | exact gs_t0 | (refine gs_t1 ?_ ?_))) <;> (simp only [sx_ev, sx_evl, gs_ofNat, gs_neg] ; omega))
  · cases j <;> cases r
    · have hc : σ 35 = w := hc
      exact tn_is_02_00 s.a s.b s.c s.d s.e s.f s.g s.h k m (by (repeat' (first | exact bk_F0 | (refine bk_F1 ?_ ?_))) <;> (simp only [sx_ev, sx_evl, gs_ofNat, gs_neg] ; omega)) (by (repeat' (first | exact gs_t0 | (refine gs_t1 ?_ ?_))) <;> (simp only [sx_ev, sx_evl, gs_ofNat, gs_neg] ; omega))
    · have hc : σ 15 = w := hc
      exact tn_is_02_01 s.a s.b s.c s.d s.e s.f s.g s.h k m (by (repeat' (first | exact bk_F0 | (refine bk_F1 ?_ ?_))) <;> (simp only [sx_ev, sx_evl, gs_ofNat, gs_neg] ; omega)) (by (repeat' (first | exact gs_t0 | (refine gs_t1 ?_ ?_))) <;> (simp only [sx_ev, sx_evl, gs_ofNat, gs_neg] ; omega))
    · have hc : σ 36 = w := hc
      exact tn_is_02_10 s.a s.b s.c s.d s.e s.f s.g s.h k m (by (repeat' (first | exact bk_F0 | (refine bk_F1 ?_ ?_))) <;> (simp only [sx_ev, sx_evl, gs_ofNat, gs_neg] ; omega)) (by (repeat' (first | exact gs_t0 | (refine gs_t1 ?_ ?_))) <;> (simp only [sx_ev, sx_evl, gs_ofNat, gs_neg] ; omega))
    · have hc : σ 15 = w := hc
      exact tn_is_02_11 s.a s.b s.c s.d s.e s.f s.g s.h k m (by (repeat' (first | exact bk_F0 | (refine bk_F1 ?_ ?_))) <;> (simp only [sx_ev, sx_evl, gs_ofNat, gs_neg] ; omega)) (by (repeat' (first | exact gs_t0 | (refine gs_t1 ?_ ?_))) <;> (simp only [sx_ev, sx_evl, gs_ofNat, gs_neg] ; omega))
  · cases j <;> cases r
    · have hc : σ 35 = w := hc
      exact tn_is_03_00 s.a s.b s.c s.d s.e s.f s.g s.h k m (by (repeat' (first | exact bk_F0 | (refine bk_F1 ?_ ?_))) <;> (simp only [sx_ev, sx_evl, gs_ofNat, gs_neg] ; omega)) (by (repeat' (first | exact gs_t0 | (refine gs_t1 ?_ ?_))) <;> (simp only [sx_ev, sx_evl, gs_ofNat, gs_neg] ; omega))
    · have hc : σ 15 = w := hc
      exact tn_is_03_01 s.a s.b s.c s.d s.e s.f s.g s.h k m (by (repeat' (first | exact bk_F0 | (refine bk_F1 ?_ ?_))) <;> (simp only [sx_ev, sx_evl, gs_ofNat, gs_neg] ; omega)) (by (repeat' (first | exact gs_t0 | (refine gs_t1 ?_ ?_))) <;> (simp only [sx_ev, sx_evl, gs_ofNat, gs_neg] ; omega))
    · have hc : σ 36 = w := hc
      exact tn_is_03_10 s.a s.b s.c s.d s.e s.f s.g s.h k m (by (repeat' (first | exact bk_F0 | (refine bk_F1 ?_ ?_))) <;> (simp only [sx_ev, sx_evl, gs_ofNat, gs_neg] ; omega)) (by (repeat' (first | exact gs_t0 | (refine gs_t1 ?_ ?_))) <;> (simp only [sx_ev, sx_evl, gs_ofNat, gs_neg] ; omega))
    · have hc : σ 15 = w := hc
      exact tn_is_03_11 s.a s.b s.c s.d s.e s.f s.g s.h k m (by (repeat' (first | exact bk_F0 | (refine bk_F1 ?_ ?_))) <;> (simp only [sx_ev, sx_evl, gs_ofNat, gs_neg] ; omega)) (by (repeat' (first | exact gs_t0 | (refine gs_t1 ?_ ?_))) <;> (simp only [sx_ev, sx_evl, gs_ofNat, gs_neg] ; omega))
  · cases j <;> cases r
    · have hc : σ 35 = w := hc
      exact tn_is_11_00 s.a s.b s.c s.d s.e s.f s.g s.h k m (by (repeat' (first | exact bk_F0 | (refine bk_F1 ?_ ?_))) <;> (simp only [sx_ev, sx_evl, gs_ofNat, gs_neg] ; omega)) (by (repeat' (first | exact gs_t0 | (refine gs_t1 ?_ ?_))) <;> (simp only [sx_ev, sx_evl, gs_ofNat, gs_neg] ; omega))
    · have hc : σ 15 = w := hc
      exact tn_is_11_01 s.a s.b s.c s.d s.e s.f s.g s.h k m (by (repeat' (first | exact bk_F0 | (refine bk_F1 ?_ ?_))) <;> (simp only [sx_ev, sx_evl, gs_ofNat, gs_neg] ; omega)) (by (repeat' (first | exact gs_t0 | (refine gs_t1 ?_ ?_))) <;> (simp only [sx_ev, sx_evl, gs_ofNat, gs_neg] ; omega))
    · have hc : σ 36 = w := hc
      exact tn_is_11_10 s.a s.b s.c s.d s.e s.f s.g s.h k m (by (repeat' (first | exact bk_F0 | (refine bk_F1 ?_ ?_))) <;> (simp only [sx_ev, sx_evl, gs_ofNat, gs_neg] ; omega)) (by (repeat' (first | exact gs_t0 | (refine gs_t1 ?_ ?_))) <;> (simp only [sx_ev, sx_evl, gs_ofNat, gs_neg] ; omega))
    · have hc : σ 15 = w := hc
      exact tn_is_11_11 s.a s.b s.c s.d s.e s.f s.g s.h k m (by (repeat' (first | exact bk_F0 | (refine bk_F1 ?_ ?_))) <;> (simp only [sx_ev, sx_evl, gs_ofNat, gs_neg] ; omega)) (by (repeat' (first | exact gs_t0 | (refine gs_t1 ?_ ?_))) <;> (simp only [sx_ev, sx_evl, gs_ofNat, gs_neg] ; omega))
  · cases j <;> cases r
    · have hc : σ 35 = w := hc
      exact tn_is_12_00 s.a s.b s.c s.d s.e s.f s.g s.h k m (by (repeat' (first | exact bk_F0 | (refine bk_F1 ?_ ?_))) <;> (simp only [sx_ev, sx_evl, gs_ofNat, gs_neg] ; omega)) (by (repeat' (first | exact gs_t0 | (refine gs_t1 ?_ ?_))) <;> (simp only [sx_ev, sx_evl, gs_ofNat, gs_neg] ; omega))
    · have hc : σ 15 = w := hc
      exact tn_is_12_01 s.a s.b s.c s.d s.e s.f s.g s.h k m (by (repeat' (first | exact bk_F0 | (refine bk_F1 ?_ ?_))) <;> (simp only [sx_ev, sx_evl, gs_ofNat, gs_neg] ; omega)) (by (repeat' (first | exact gs_t0 | (refine gs_t1 ?_ ?_))) <;> (simp only [sx_ev, sx_evl, gs_ofNat, gs_neg] ; omega))
    · have hc : σ 36 = w := hc
      exact tn_is_12_10 s.a s.b s.c s.d s.e s.f s.g s.h k m (by (repeat' (first | exact bk_F0 | (refine bk_F1 ?_ ?_))) <;> (simp only [sx_ev, sx_evl, gs_ofNat, gs_neg] ; omega)) (by (repeat' (first | exact gs_t0 | (refine gs_t1 ?_ ?_))) <;> (simp only [sx_ev, sx_evl, gs_ofNat, gs_neg] ; omega))
    · have hc : σ 15 = w := hc
      exact tn_is_12_11 s.a s.b s.c s.d s.e s.f s.g s.h k m (by (repeat' (first | exact bk_F0 | (refine bk_F1 ?_ ?_))) <;> (simp only [sx_ev, sx_evl, gs_ofNat, gs_neg] ; omega)) (by (repeat' (first | exact gs_t0 | (refine gs_t1 ?_ ?_))) <;> (simp only [sx_ev, sx_evl, gs_ofNat, gs_neg] ; omega))
  · cases j <;> cases r
    · have hc : σ 35 = w := hc
      exact tn_is_13_00 s.a s.b s.c s.d s.e s.f s.g s.h k m (by (repeat' (first | exact bk_F0 | (refine bk_F1 ?_ ?_))) <;> (simp only [sx_ev, sx_evl, gs_ofNat, gs_neg] ; omega)) (by (repeat' (first | exact gs_t0 | (refine gs_t1 ?_ ?_))) <;> (simp only [sx_ev, sx_evl, gs_ofNat, gs_neg] ; omega))
    · have hc : σ 15 = w := hc
      exact tn_is_13_01 s.a s.b s.c s.d s.e s.f s.g s.h k m (by (repeat' (first | exact bk_F0 | (refine bk_F1 ?_ ?_))) <;> (simp only [sx_ev, sx_evl, gs_ofNat, gs_neg] ; omega)) (by (repeat' (first | exact gs_t0 | (refine gs_t1 ?_ ?_))) <;> (simp only [sx_ev, sx_evl, gs_ofNat, gs_neg] ; omega))
    · have hc : σ 36 = w := hc
      exact tn_is_13_10 s.a s.b s.c s.d s.e s.f s.g s.h k m (by (repeat' (first | exact bk_F0 | (refine bk_F1 ?_ ?_))) <;> (simp only [sx_ev, sx_evl, gs_ofNat, gs_neg] ; omega)) (by (repeat' (first | exact gs_t0 | (refine gs_t1 ?_ ?_))) <;> (simp only [sx_ev, sx_evl, gs_ofNat, gs_neg] ; omega))
    · have hc : σ 15 = w := hc
      exact tn_is_13_11 s.a s.b s.c s.d s.e s.f s.g s.h k m (by (repeat' (first | exact bk_F0 | (refine bk_F1 ?_ ?_))) <;> (simp only [sx_ev, sx_evl, gs_ofNat, gs_neg] ; omega)) (by (repeat' (first | exact gs_t0 | (refine gs_t1 ?_ ?_))) <;> (simp only [sx_ev, sx_evl, gs_ofNat, gs_neg] ; omega))
theorem gi_is (s : gr_S) (k m j r : Bool) {z : Nat → Nat} {σ : Nat → Int} {w : Int} (hw : σ 1042 = w) (hc : σ (cond r 15 (cond j 36 35)) = w) (hr : -999 ≤ w ∧ w ≤ 999) : ∃ a b c : Int, gx_H 40 sm_L_is 17 690 0 0 z (sx_σi (gi_U a b c) σ) (bk_pt 0 gi_L [] (bOPEN s k m j r) 300) (sx_σi (gi_U a b c) σ) (bk_pt 66 [] [gn_c 1] (bOPEN s k m j r) 300) := by
  have key : ∀ a b c : Int, (w = 0 ∨ (w = c ∧ 1 ≤ c ∧ c ≤ 9) ∨ (w = 10 * b + c ∧ 1 ≤ b ∧ b ≤ 9 ∧ 0 ≤ c ∧ c ≤ 9) ∨ (w = 100 * a + 10 * b + c ∧ 1 ≤ a ∧ a ≤ 9 ∧ 0 ≤ b ∧ b ≤ 9 ∧ 0 ≤ c ∧ c ≤ 9) ∨ (w = -c ∧ 1 ≤ c ∧ c ≤ 9) ∨ (w = -(10 * b + c) ∧ 1 ≤ b ∧ b ≤ 9 ∧ 0 ≤ c ∧ c ≤ 9) ∨ (w = -(100 * a + 10 * b + c) ∧ 1 ≤ a ∧ a ≤ 9 ∧ 0 ≤ b ∧ b ≤ 9 ∧ 0 ≤ c ∧ c ≤ 9)) → gx_H 40 sm_L_is 17 690 0 0 z (sx_σi (gi_U a b c) σ) (bk_pt 0 gi_L [] (bOPEN s k m j r) 300) (sx_σi (gi_U a b c) σ) (bk_pt 66 [] [gn_c 1] (bOPEN s k m j r) 300) := fun a b c hd => by
    have e41 : sx_σi (gi_U a b c) σ 41 = a := (gs_some rfl).trans (by simp only [sx_ev, sx_evl]; omega)
    have e42 : sx_σi (gi_U a b c) σ 42 = b := (gs_some rfl).trans (by simp only [sx_ev, sx_evl]; omega)
    have e43 : sx_σi (gi_U a b c) σ 43 = c := (gs_some rfl).trans (by simp only [sx_ev, sx_evl]; omega)
    exact gi_dig s k m j r e41 e42 e43 ((gi_lo (.inr (by decide))).trans hw) ((gi_lo (.inl (by cases r <;> cases j <;> decide))).trans hc) hd
  by_cases h0 : 0 ≤ w
  · exact ⟨w / 100, w / 10 % 10, w % 10, key _ _ _ (by omega)⟩
  · exact ⟨(-w) / 100, (-w) / 10 % 10, (-w) % 10, key _ _ _ (by omega)⟩
theorem gi_prep_s {P : Nat → Option sx_M} {x : sx_R} {c : sx_S} {mj n ci : Nat} {rest : List Nat} {M' : sx_M} (h1 : sx_isinv x.2.1 = true) (h2 : x.2.2.2.1 = 2 :: mj :: n :: ci :: rest) (h3 : P mj = some M') (h4 : Nat.ble n c.2.2.1.length = true) : sx_prep P x c = some (M', (c.2.2.1.take n).reverse, c.2.2.1.drop n) := by
  unfold sx_prep
  rw [h1, h2]
  simp only [h3, h4, Bool.not_true, cond_false, cond_true]
/-- the law's call of is -/
theorem gi_law (s : gr_S) (k m j r : Bool) {k' : Nat} {z : Nat → Nat} {σ : Nat → Int} {w : Int} (hw : σ 1042 = w) (hc : σ (cond r 15 (cond j 36 35)) = w) (hr : -999 ≤ w ∧ w ≤ 999) : ∃ σ' : Nat → Int, (∀ u, u < 41 ∨ 43 < u → σ' u = σ u) ∧ gx_H 40 sm_L_law 18 726 0 0 z σ (bk_pt 282 (gl_L14 k') [.inr (.inl (.ofNat 0, [(1042, .ofNat 1)])), sx_id 0] (bOPEN s k m j r) 300) σ' (bk_pt 283 (gl_L14 k') [gn_c 1] (bOPEN s k m j r) 300) := by
  obtain ⟨a, b, c, h⟩ := gi_is (z := z) s k m j r hw hc hr
  refine ⟨sx_σi (gi_U a b c) σ, fun u hu => gi_lo hu, ?_⟩
  have hB : bk_OK (bOPEN s k m j r) := gpo_OPEN _ _ _ _ _ _ _ _ _ _ _ _ gn_lb
  have h1 : gx_H 40 sm_L_law 18 726 0 0 z σ (bk_pt 282 (gl_L14 k') [.inr (.inl (.ofNat 0, [(1042, .ofNat 1)])), sx_id 0] (bOPEN s k m j r) 300) (sx_σi (gi_U a b c) σ) (bk_pt 282 (gl_L14 k') [.inr (.inl (.ofNat 0, [(1042, .ofNat 1)])), sx_id 0] (bOPEN s k m j r) 300) := gi_set hB (fun i hi => gi_R (gi_Uk a b c) (gi_OPEN _ _ _ _ _ _ _ _ _ _ _ _ i hi)) rfl rfl
  have h2 : gx_G 40 sm_L_law 18 726 0 0 z (sx_σi (gi_U a b c) σ) (bk_pt 282 (gl_L14 k') [.inr (.inl (.ofNat 0, [(1042, .ofNat 1)])), sx_id 0] (bOPEN s k m j r) 300) (sx_σi (gi_U a b c) σ) (bk_pt 283 (gl_L14 k') [gn_c 1] (bOPEN s k m j r) 300) :=
    gx_G.call (fr := 18) (lo := 726) (fr1 := 17) (lo1 := 690) (S' := []) (rv := [gn_c 1]) (r := 282) (L := gl_L14 k') (S := [.inr (.inl (.ofNat 0, [(1042, .ofNat 1)])), sx_id 0]) (M := sm_L_law) (M' := sm_L_is) (mi := 59) (mj := 213) (x := (523, .invokestatic 103, 3, [2, 213, 2, 99, 3116, 3117, 0, 374, 3118, 0], .ofNat 0)) rfl rfl rfl (by decide +kernel) (gi_prep_s (M' := sm_L_is) (mj := 213) (n := 2) rfl rfl rfl rfl) (by decide) (Nat.le_of_ble_eq_true rfl) (by decide) (Nat.le_of_ble_eq_true rfl) (Nat.le_of_ble_eq_true rfl) (by decide) (⟨fun _ _ => rfl, h⟩ : gx_G 40 sm_L_is 17 690 0 0 z (sx_σi (gi_U a b c) σ) (bk_pt 0 gi_L [] (bOPEN s k m j r) 300) (sx_σi (gi_U a b c) σ) (bk_pt 66 [] [gn_c 1] (bOPEN s k m j r) 300)) ((gn_retw _ (gx_mk [])).trans (gn_reto (by decide +kernel))) rfl rfl
  exact (gx_H.tr (Nat.le_refl 40) (Nat.le_refl 40) h1 h2.2).mono (Nat.le_refl _) (Nat.le_refl _) (Nat.le_refl _) (by omega) (by omega)
/-- the law's call of told, behind the end -/
theorem gi_told (s : gr_S) {z : Nat → Nat} {σ : Nat → Int} : gx_H 40 sm_L_law 18 726 0 0 z σ (bk_pt 313 [(1, sx_id 0)] [gn_c 0, gn_c 0, sx_id 0] (bEND s) 300) σ (bk_pt 314 [(1, sx_id 0)] [gn_c 0] (bEND s) 300) := by
  have hB : bk_OK (bEND s) := gpo_END _ _ _ _ _ _ _ _ gn_lb
  obtain ⟨fs, hf⟩ : ∃ fs, sx_lk gn_LB 0 = some (.inl (14, fs)) := ⟨_, rfl⟩
  have hl : sx_look 12 (gx_mk (bk_W (bEND s) bk_all)) 0 = some (.inl (14, fs)) := gn_look (j := 14) hB (by decide) (by decide) (by decide) (by exact hf)
  have h : gx_G 40 sm_X12_told 17 700 0 0 z σ (bk_pt 0 [(0, .inr (.inr (some (.inl 0)))), (1, gn_c 0), (2, gn_c 0)] [] (bEND s) 300) σ (bk_pt 16 [] [gn_c 0] (bEND s) 300) := ⟨fun _ _ => rfl, tn_n_o s.a s.b s.c s.d s.e s.f s.g s.h bk_F0 gs_t0⟩
  exact (gx_G.call (fr := 18) (lo := 726) (fr1 := 17) (lo1 := 700) (S' := []) (rv := [gn_c 0]) (r := 313) (L := [(1, sx_id 0)]) (S := [gn_c 0, gn_c 0, sx_id 0]) (M := sm_L_law) (M' := sm_X12_told) (mi := 59) (mj := 193) (x := (586, .invokevirtual 107, 3, [0, 193, 2, 14, 3156, 3157, 3158, 2, 3159, 0], .ofNat 0)) rfl rfl rfl (by decide +kernel) (gn_prep_v (M' := sm_X12_told) (mj := 193) (n := 2) (ci := 14) (a := 0) (S := []) rfl rfl rfl rfl hl) (by decide) (Nat.le_of_ble_eq_true rfl) (by decide) (Nat.le_of_ble_eq_true rfl) (Nat.le_of_ble_eq_true rfl) (by decide) h ((gn_retw _ (gx_mk [])).trans (gn_reto (by decide +kernel))) rfl rfl).2
