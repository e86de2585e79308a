/-! units used on states told as lists, with nodes that are promised to stand somewhere -/
noncomputable def bk_I (il : List Nat) : Nat → Bool := fun j => il.any (fun x => Nat.beq j x)
noncomputable def gx_okDI (il : List Nat) (M : sx_M) (fr lo : Nat) (d : gx_D) : Bool := gx_ok (bk_I il) d.1 100000 fr lo M d.2.1 d.2.2.1 d.2.2.2.1 d.2.2.2.2.1 d.2.2.2.2.2.1 d.2.2.2.2.2.2.1 d.2.2.2.2.2.2.2.1 d.2.2.2.2.2.2.2.2
/-- what a unit says of the states before and behind -/
def pchk (d : gx_D) (θ0 : List (Nat × sx_I)) (T0 T1 : gx_Z) : Bool :=
  Nat.beq T0.1 d.2.2.1.1 && Nat.beq T0.2.2.2.2 d.2.2.1.2.2.2.2 && Nat.beq T1.1 d.2.2.2.2.2.2.2.2.1 && Nat.beq T1.2.2.2.2 d.2.2.2.2.2.2.2.2.2.2.2.2 &&
  gq_L (gq_v θ0) (gq_v θ0) T0.2.1 d.2.2.1.2.1 && gq_S (gq_v θ0) (gq_v θ0) T0.2.2.1 d.2.2.1.2.2.1 &&
  gq_L (fun v => gq_v θ0 (gq_v d.2.2.2.2.2.2.2.1 v)) (fun v => gq_v θ0 (gq_v d.2.2.2.2.2.2.2.1 v)) d.2.2.2.2.2.2.2.2.2.1 T1.2.1 && gq_S (fun v => gq_v θ0 (gq_v d.2.2.2.2.2.2.2.1 v)) (fun v => gq_v θ0 (gq_v d.2.2.2.2.2.2.2.1 v)) d.2.2.2.2.2.2.2.2.2.2.1 T1.2.2.1 &&
  d.2.2.1.2.2.2.1.all (fun q => match sx_lk T0.2.2.2.1 q.1 with
    | none => false
    | some c => gx_wk (fun i => i) [] (gq_i θ0 c) (gq_i θ0 q.2)) &&
  T1.2.2.2.1.all (fun q => match sx_lk d.2.2.2.2.2.2.2.2.2.2.2.1 q.1 with
    | none => false
    | some c => gx_wk (fun i => i) [] (gq_i θ0 (gq_i d.2.2.2.2.2.2.2.1 c)) (gq_i θ0 (gq_i d.2.2.2.2.2.2.2.1 q.2)))
/-- the rest is not touched -/
def pokR (d : gx_D) (R : List (Nat × sx_C)) : Bool := R.all (fun q => Nat.blt q.1 d.2.2.2.2.2.1 && (sx_lk d.2.2.1.2.2.2.1 q.1).isNone && gx_lC d.2.2.2.2.2.1 d.2.2.2.2.2.2.2.1 q.2 && (sx_lk d.2.2.2.2.2.2.2.2.2.2.2.1 q.1).isNone)
def pokI (il : List Nat) (d : gx_D) (R : List (Nat × sx_C)) : Bool := il.all (fun j => Nat.blt j d.2.2.1.2.2.2.2 && Nat.blt j 4096 && (sx_lk d.2.2.1.2.2.2.1 j).isNone && (match sx_lk R j with
  | some (.inl (6, _)) => true
  | _ => false))
theorem pM {il : List Nat} {M : sx_M} {fr lo : Nat} {d : gx_D} {z : Nat → Nat} {σ : Nat → Int} {θ0 : List (Nat × sx_I)} {r0 r1 nx0 nx1 : Nat} {L0 L1 : List (Nat × sx_V)} {S0 S1 : List sx_V} {l0 l1 A0 A1 R : List (Nat × sx_C)} (hM : ∃ mi, sx_p9 mi = some M) (hok : gx_okDI il M fr lo d = true) (hck : pchk d θ0 (r0, L0, S0, l0, nx0) (r1, L1, S1, l1, nx1) = true) (hR : pokR d R = true) (hI : pokI il d R = true) (hB : sx_okB σ d.1) (hθ : ∀ q ∈ θ0, sx_ev σ q.2 = σ q.1)
    (h0l : ∀ i c, sx_lk l0 i = some c → sx_lk A0 i = some c) (h0R : ∀ i c, sx_lk R i = some c → sx_lk A0 i = some c) (h1 : ∀ i c, sx_lk A1 i = some c → sx_lk l1 i = some c ∨ sx_lk R i = some c) :
    gx_H d.2.2.2.2.2.1 M fr lo d.2.2.2.1 d.2.2.2.2.1 z σ (r0, L0, S0, gx_mk A0, nx0) (sx_σi d.2.2.2.2.2.2.2.1 σ) (r1, L1, S1, gx_mk A1, nx1) := by
  obtain ⟨Bs, ts, ⟨rc0, Lc0, Sc0, cs0, nc0⟩, dk, ds, P, fs, θ, ⟨rc1, Lc1, Sc1, cs1, nc1⟩⟩ := d
  unfold pchk at hck
  simp only at hck
  simp only [Bool.and_eq_true] at hck
  obtain ⟨⟨⟨⟨⟨⟨⟨⟨⟨k5, k6⟩, k7⟩, k8⟩, k9⟩, k10⟩, k11⟩, k12⟩, k13⟩, k15⟩ := hck
  have e5 := Nat.eq_of_beq_eq_true k5
  have e6 := Nat.eq_of_beq_eq_true k6
  have e7 := Nat.eq_of_beq_eq_true k7
  have e8 := Nat.eq_of_beq_eq_true k8
  subst e5 e6 e7 e8
  have hσ0 : sx_σi θ0 σ = σ := gq_σ hθ
  have hRq : ∀ q ∈ R, q.1 < P ∧ sx_lk cs0 q.1 = none ∧ gx_lC P θ q.2 = true ∧ sx_lk cs1 q.1 = none := fun q hq => by
    have h9 := List.all_eq_true.mp hR q hq
    rw [Bool.and_eq_true, Bool.and_eq_true, Bool.and_eq_true] at h9
    obtain ⟨⟨⟨a1, a2⟩, a3⟩, a4⟩ := h9
    refine ⟨Nat.le_of_ble_eq_true a1, ?_, a3, ?_⟩
    · have a2 : (sx_lk cs0 q.1).isNone = true := a2
      cases e : sx_lk cs0 q.1 with
      | none => rfl
      | some c9 => rw [e] at a2; cases a2
    · have a4 : (sx_lk cs1 q.1).isNone = true := a4
      cases e : sx_lk cs1 q.1 with
      | none => rfl
      | some c9 => rw [e] at a4; cases a4
  have hok9 : gx_okG P θ cs0 R = true := by
    refine List.all_eq_true.mpr fun q hq => ?_
    obtain ⟨a1, a2, a3, -⟩ := hRq q hq
    rw [Bool.and_eq_true, Bool.and_eq_true]
    exact ⟨⟨Nat.ble_eq_true_of_le a1, by rw [a2]; rfl⟩, a3⟩
  have hI9 : gx_okI (bk_I il) (r0, Lc0, Sc0, cs0, nx0) R := by
    intro j hj
    obtain ⟨x, hx9, e9⟩ := List.any_eq_true.mp hj
    have e9 := Nat.eq_of_beq_eq_true e9
    subst e9
    have h9 := List.all_eq_true.mp hI _ hx9
    rw [Bool.and_eq_true, Bool.and_eq_true, Bool.and_eq_true] at h9
    obtain ⟨⟨⟨a1, a2⟩, a3⟩, a4⟩ := h9
    refine ⟨Nat.le_of_ble_eq_true a1, Nat.le_of_ble_eq_true a2, ?_, ?_⟩
    · show sx_lk cs0 j = none
      have a3 : (sx_lk cs0 j).isNone = true := a3
      cases e : sx_lk cs0 j with
      | none => rfl
      | some c9 => rw [e] at a3; cases a3
    · have a4 : (match sx_lk R j with
        | some (.inl (6, _)) => true
        | _ => false) = true := a4
      split at a4
      · rename_i fs9 hc9
        exact ⟨fs9, hc9⟩
      · cases a4
  have key := gx_mac (z := z) hM hB hok hok9 hI9
  have s1 : gx_H P M fr lo 0 0 z σ (r0, L0, S0, gx_mk A0, nx0) σ (r0, Lc0, Sc0, gx_mk (cs0 ++ R), nx0) := by
    have fV : ∀ (ρ : Nat → Option Nat) (v : sx_V) (x : Value), sx_RV ρ z σ v x → sx_RV ρ z σ (gq_v θ0 v) x := fun ρ v x h => gq_fV (by rw [hσ0]; exact h)
    have gV : ∀ (ρ : Nat → Option Nat) (v : sx_V) (x : Value), sx_RV ρ z σ (gq_v θ0 v) x → sx_RV ρ z σ v x := fun ρ v x h => by have := gq_bV h; rw [hσ0] at this; exact this
    refine gx_H.pt (fun i c hi => ?_) (fun ρ lv h => gq_L_ok (fV ρ) (gV ρ) k9 h) (fun ρ st h => gq_S_ok (fV ρ) (gV ρ) k10 h)
    obtain ⟨hlt, hi⟩ := gx_mk_some hi
    rw [gx_lk_app] at hi
    cases hc : sx_lk cs0 i with
    | some c9 =>
      rw [hc] at hi
      cases hi
      have hq := List.all_eq_true.mp k13 _ (sx_lk_in hc)
      simp only at hq
      split at hq
      · cases hq
      · rename_i c9 hc9
        refine ⟨c9, ?_, fun cA ρ e h => ?_⟩
        · rw [gx_mk_look hlt]
          exact h0l i c9 hc9
        · have h1 := gq_wk (ρ := ρ) (z := z) (σ := σ) hq (gq_fC (θ := θ0) (by rw [hσ0]; exact h))
          have h2 := gq_bC h1
          rw [hσ0] at h2
          exact h2
    | none =>
      rw [hc] at hi
      have hi : sx_lk R i = some c := hi
      refine ⟨c, ?_, fun cA ρ e h => h⟩
      rw [gx_mk_look hlt]
      exact h0R i c hi
  have s3 : gx_H P M fr lo 0 0 z (sx_σi θ σ) (r1, Lc1, Sc1, gx_mk (cs1 ++ R), nx1) (sx_σi θ σ) (r1, L1, S1, gx_mk A1, nx1) := by
    have fV : ∀ (ρ : Nat → Option Nat) (v : sx_V) (x : Value), sx_RV ρ z (sx_σi θ σ) v x → sx_RV ρ z σ (gq_v θ0 (gq_v θ v)) x := fun ρ v x h => gq_fV (by rw [hσ0]; exact gq_fV h)
    have gV : ∀ (ρ : Nat → Option Nat) (v : sx_V) (x : Value), sx_RV ρ z σ (gq_v θ0 (gq_v θ v)) x → sx_RV ρ z (sx_σi θ σ) v x := fun ρ v x h => gq_bV (by have := gq_bV h; rw [hσ0] at this; exact this)
    refine gx_H.pt (fun i c hi => ?_) (fun ρ lv h => gq_L_ok (fV ρ) (gV ρ) k11 h) (fun ρ st h => gq_S_ok (fV ρ) (gV ρ) k12 h)
    obtain ⟨hlt, hi⟩ := gx_mk_some hi
    rcases h1 i c hi with hi | hi
    · have hq := List.all_eq_true.mp k15 _ (sx_lk_in hi)
      simp only at hq
      split at hq
      · cases hq
      · rename_i c9 hc9
        refine ⟨c9, ?_, fun cA ρ e h => ?_⟩
        · rw [gx_mk_look hlt, gx_lk_app, hc9]
        · have h1 := gq_wk (ρ := ρ) (z := z) (σ := σ) hq (gq_fC (θ := θ0) (by rw [hσ0]; exact gq_fC h))
          have h2 := gq_bC h1
          rw [hσ0] at h2
          exact gq_bC h2
    · have hn := (hRq _ (sx_lk_in hi)).2.2.2
      have hn : sx_lk cs1 i = none := hn
      refine ⟨c, ?_, fun cA ρ e h => h⟩
      rw [gx_mk_look hlt, gx_lk_app, hn]
      exact hi
  have := gx_H.tr (Nat.le_refl P) (Nat.le_refl P) (gx_H.tr (Nat.le_refl P) (Nat.le_refl P) s1 key) s3
  exact gx_H.mono this (Nat.le_refl _) (Nat.le_refl _) (Nat.le_refl _) (by omega) (by omega)
/-- with no name twice what stands in a list is found -/
theorem pnod {α : Type} : ∀ {l : List (Nat × α)} {i : Nat} {c : α}, sx_nod (l.map Prod.fst) = true → (i, c) ∈ l → sx_lk l i = some c
  | [], _, _, _, h => (nomatch h)
  | q :: t, i, c, hn, h => by
    have hn : ((t.map Prod.fst).all (fun y => !Nat.beq q.1 y) && sx_nod (t.map Prod.fst)) = true := hn
    rw [Bool.and_eq_true] at hn
    show (bif Nat.beq q.1 i then some q.2 else sx_lk t i) = some c
    rcases List.mem_cons.mp h with h | h
    · rw [← h]
      show (bif Nat.beq i i then some c else sx_lk t i) = some c
      rw [Nat.beq_refl]
      rfl
    · cases e : Nat.beq q.1 i with
      | false => exact pnod hn.2 h
      | true =>
        have h1 := List.all_eq_true.mp hn.1 i (List.mem_map.mpr ⟨(i, c), h, rfl⟩)
        rw [e] at h1
        cases h1
