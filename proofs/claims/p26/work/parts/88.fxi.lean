/-! the soundness of the quicker reader -/
theorem fx_pra_prm {B : sx_Bs} {fr lo : Nat} {M : sx_M} {pc len j t : Nat} {ins : Instr} {cst : Int} {c : sx_S} : sx_pra B fr lo M (pc, ins, len, [9, j, t], cst) c = sx_prm B fr lo M (pc, ins, len, [9, j, t], cst) c := by
  have e : sx_hkn (pc, ins, len, [9, j, t], cst) = 0 := by
    unfold sx_hkn
    cases sx_isinv ins <;> rfl
  unfold sx_pra
  rw [e]
  rfl
theorem fx_hkn_nat {aux : List Nat} {h : Nat} (hh : 1000 ≤ h) (e : fx_hkn aux = h) : ∃ j tl, aux = 9 :: j :: tl := by
  unfold fx_hkn at e
  split at e
  · rename_i kd m tl
    cases h9 : Nat.beq kd 9 with
    | true => exact ⟨m, tl, by rw [Nat.eq_of_beq_eq_true h9]⟩
    | false =>
      rw [h9, cond_false] at e
      exfalso
      revert e
      cases Nat.beq m 1 <;> cases Nat.beq m 8 <;> cases Nat.beq m 9 <;> cases Nat.beq m 228 <;> (simp only [cond_true, cond_false]; omega)
  · omega
theorem fx_hk_ok {I : Nat → Bool} {B : sx_Bs} {f fr lo stop : Nat} {M : sx_M} {fst : Bool} {pc len : Nat} {ins : Instr} {aux : List Nat} {cst : Int} {r nx k n : Nat} {L : List (Nat × sx_V)} {S : List sx_V} {w : fx_W} {c1 : fx_S} (IH : ∀ (r : Nat) (L : List (Nat × sx_V)) (S : List sx_V) (w : fx_W) (nx k n : Nat) (c1 : fx_S), fx_ex I B f fr lo M stop false r L S w nx k n = some c1 → fx_SM I B f fr lo M stop false r L S w nx k n c1)
    (hf : (!fst && Nat.beq r stop) = false) (hx : sx_row M r = some (pc, ins, len, aux, cst)) (hi : sx_isinv ins = true) (hret : sx_isret ins = false) (h : fx_hk I B (fx_hkn aux) fr lo M (pc, ins, len, aux, cst) (fx_ex I B f fr lo M stop false) r L S w nx k n = some c1) : fx_SM I B (f + 1) fr lo M stop fst r L S w nx k n c1 := by
  have hst : ∀ c : sx_S, sx_step1 B M.2.2.1 (pc, ins, len, aux, cst) c = none := fun c => fx_inv hi B M.2.2.1 pc len aux cst c
  unfold fx_hk at h
  cases h0 : Nat.ble 1000 (fx_hkn aux) with
  | true =>
    rw [h0, cond_true] at h
    simp only at h
    split at h
    · rename_i z9 j t
      obtain ⟨j', tl', e⟩ := fx_hkn_nat (Nat.le_of_ble_eq_true h0) rfl
      have e : [z9, j, t] = 9 :: j' :: tl' := e
      cases e
      cases hg : fx_gd M (pc, ins, len, [9, j, t], cst) j t with
      | false => rw [hg, cond_false] at h; cases h
      | true =>
        rw [hg, cond_true] at h
        cases h3 : Nat.beq j 3 with
        | true =>
          rw [h3, cond_true] at h
          cases Nat.eq_of_beq_eq_true h3
          split at h
          · rename_i q hq
            obtain ⟨⟨c0, hc0⟩, a2⟩ := fx_acp_ok hg hq
            refine (IH _ _ _ _ _ _ _ _ h).step hf hx hret (fun w' hw hI => ⟨_, fx_go.wr hw hc0, Or.inr ⟨hst _, fx_nprep, ?_⟩⟩)
            rw [fx_pra_prm]
            exact a2 hw r nx k n L
          · cases h
        | false =>
          rw [h3, cond_false] at h
          split at h
          · rename_i S1 hq
            refine (IH _ _ _ _ _ _ _ _ h).step hf hx hret (fun w' hw hI => ⟨w', fx_go.rf hw, Or.inr ⟨hst _, fx_nprep, ?_⟩⟩)
            rw [fx_pra_prm]
            exact fx_nat_ok hg hq r nx k n L w'
          · cases h
    · cases h
  | false =>
    rw [h0, cond_false] at h
    cases h1 : Nat.beq (fx_hkn aux) 1 with
    | true =>
      rw [h1, cond_true] at h
      have e1 := Nat.eq_of_beq_eq_true h1
      split at h
      · rename_i S1 hq
        refine (IH _ _ _ _ _ _ _ _ h).step hf hx hret (fun w' hw hI => ⟨w', fx_go.rf hw, Or.inr ⟨hst _, ?_, fx_hW_ok hq e1 hi hw M pc len cst r nx k n L⟩⟩)
        obtain ⟨kd, tl, rfl, -⟩ := fx_hkn_at (by decide) (by decide) e1
        exact fx_prep9 fx_p9N.1 pc len ins cst _
      · cases h
    | false =>
      rw [h1, cond_false] at h
      cases h2 : Nat.beq (fx_hkn aux) 228 with
      | true =>
        rw [h2, cond_true] at h
        have e1 := Nat.eq_of_beq_eq_true h2
        split at h
        · rename_i q hq
          refine (IH _ _ _ _ _ _ _ _ h).step hf hx hret (fun w' hw hI => ⟨_, fx_go.nw hw, Or.inr ⟨hst _, ?_, fx_hQ_ok hq e1 hi hw hI.pr M pc len cst r nx k n L⟩⟩)
          obtain ⟨kd, tl, rfl, -⟩ := fx_hkn_at (by decide) (by decide) e1
          exact fx_prep9 fx_p9N.2.2 pc len ins cst _
        · cases h
      | false =>
        rw [h2, cond_false] at h
        cases h9 : Nat.beq (fx_hkn aux) 9 with
        | true =>
          rw [h9, cond_true] at h
          have e1 := Nat.eq_of_beq_eq_true h9
          split at h
          · rename_i q hq
            obtain ⟨⟨c0, hc0⟩, a2⟩ := fx_hF_ok (B := B) hq e1 hi
            refine (IH _ _ _ _ _ _ _ _ h).step hf hx hret (fun w' hw hI => ⟨_, fx_go.wr hw hc0, Or.inr ⟨hst _, ?_, a2 hw M pc len cst r nx k n L⟩⟩)
            obtain ⟨kd, tl, rfl, -⟩ := fx_hkn_at (by decide) (by decide) e1
            exact fx_prep9 fx_p9N.2.1 pc len ins cst _
          · cases h
        | false => rw [h9, cond_false] at h; cases h
theorem fx_sh_ok {B : sx_Bs} {S S1 : List sx_V} (fr lo : Nat) (M : sx_M) (pc len : Nat) (aux : List Nat) (cst : Int) (r nx k n : Nat) (L : List (Nat × sx_V)) (w' : sx_W) (ha : ∀ j t, aux ≠ [9, j, t]) : (fx_sh (-1) B S = some S1 → sx_prm B fr lo M (pc, .lshr, len, aux, cst) (r, L, S, w', nx, k, n) = some (r + 1, L, S1, w', nx, k, n)) ∧ (fx_sh 1 B S = some S1 → sx_prm B fr lo M (pc, .lushr, len, aux, cst) (r, L, S, w', nx, k, n) = some (r + 1, L, S1, w', nx, k, n)) := by
  have e : ∀ ins, sx_prm B fr lo M (pc, ins, len, aux, cst) (r, L, S, w', nx, k, n) = sx_prS B (pc, ins, len, aux, cst) (r, L, S, w', nx, k, n) := fun ins => by
    unfold sx_prm
    split
    · rename_i t h9; exact absurd h9 (ha 0 t)
    · rename_i t h9; exact absurd h9 (ha 1 t)
    · rename_i t h9; exact absurd h9 (ha 2 t)
    · rename_i t h9; exact absurd h9 (ha 3 t)
    · rename_i t h9; exact absurd h9 (ha 4 t)
    · rfl
  constructor
  · intro h
    rw [e]
    unfold fx_sh at h
    split at h
    · rename_i b e9 S0
      unfold sx_prS
      simp only
      cases h1 : (sx_eq b 63 && sx_in B e9 0 9223372036854775807) with
      | true => rw [h1, cond_true] at h; cases h; rfl
      | false =>
        rw [h1, cond_false] at h
        rw [cond_false]
        cases h2 : (sx_eq b 63 && sx_in B e9 (-9223372036854775808) (-1)) with
        | true => rw [h2, cond_true] at h; cases h; rfl
        | false => rw [h2, cond_false] at h; cases h
    · cases h
  · intro h
    rw [e]
    unfold fx_sh at h
    split at h
    · rename_i b e9 S0
      unfold sx_prS
      simp only
      cases h1 : (sx_eq b 63 && sx_in B e9 0 9223372036854775807) with
      | true => rw [h1, cond_true] at h; cases h; rfl
      | false =>
        rw [h1, cond_false] at h
        rw [cond_false]
        cases h2 : (sx_eq b 63 && sx_in B e9 (-9223372036854775808) (-1)) with
        | true => rw [h2, cond_true] at h; cases h; rfl
        | false => rw [h2, cond_false] at h; cases h
    · cases h
theorem fx_sim (I : Nat → Bool) (B : sx_Bs) : ∀ (f fr lo : Nat) (M : sx_M) (stop : Nat) (fst : Bool) (r : Nat) (L : List (Nat × sx_V)) (S : List sx_V) (w : fx_W) (nx k n : Nat) (c1 : fx_S), fx_ex I B f fr lo M stop fst r L S w nx k n = some c1 → fx_SM I B f fr lo M stop fst r L S w nx k n c1
  | 0, _, _, _, _, _, _, _, _, _, _, _, _, _, h => by
    have h : (none : Option fx_S) = _ := h
    cases h
  | f + 1, fr, lo, M, stop, fst, r, L, S, w, nx, k, n, c1, h => by
    have IH := fx_sim I B f
    have h : (bif !fst && Nat.beq r stop then some (r, L, S, w, nx, k, n) else match fx_row M r with
      | none => none
      | some x => fx_st I B (fx_ex I B f) fr lo M stop x (fx_kd x.2.1) r L S w nx k n) = some c1 := h
    cases hf : (!fst && Nat.beq r stop) with
    | true =>
      rw [hf, cond_true] at h
      cases h
      intro w' hw hI
      refine ⟨w', ?_, fx_go.rf hw⟩
      unfold sx_ex
      have hf : (!fst && Nat.beq (r, L, S, w', nx, k, n).1 stop) = true := hf
      simp only [hf, cond_true]
    | false =>
      rw [hf, cond_false, fx_row_eq] at h
      cases hx : sx_row M r with
      | none => rw [hx] at h; cases h
      | some x =>
        rw [hx] at h
        obtain ⟨pc, ins, len, aux, cst⟩ := x
        have h : fx_st I B (fx_ex I B f) fr lo M stop (pc, ins, len, aux, cst) (fx_kd ins) r L S w nx k n = some c1 := h
        unfold fx_st at h
        cases h0 : Nat.beq (fx_kd ins) 0 with
        | true =>
          rw [h0, cond_true] at h
          obtain ⟨r1, L1, S1, w1, nx1, k1, n1, hK, ho⟩ := fx_op_ok h
          refine (IH _ _ _ _ _ _ _ _ _ _ _ _ _ hK).step hf hx (fx_kd_op (Nat.eq_of_beq_eq_true h0)) (fun w' hw hI => ?_)
          obtain ⟨w1', a1, a2⟩ := ho w' hw hI pc len
          exact ⟨w1', a2, Or.inl a1⟩
        | false =>
          rw [h0, cond_false] at h
          cases h1 : Nat.beq (fx_kd ins) 1 with
          | true =>
            rw [h1, cond_true] at h
            cases h
            intro w' hw hI
            refine ⟨w', ?_, fx_go.rf hw⟩
            unfold sx_ex
            have hf : (!fst && Nat.beq (r, L, S, w', nx, k, n).1 stop) = false := hf
            have hx : sx_row M (r, L, S, w', nx, k, n).1 = some (pc, ins, len, aux, cst) := hx
            have hr : sx_isret (pc, ins, len, aux, cst).2.1 = true := fx_kd_ret (Nat.eq_of_beq_eq_true h1)
            simp only [hf, cond_false, hx, hr, cond_true]
          | false =>
            rw [h1, cond_false] at h
            cases h2 : Nat.beq (fx_kd ins) 2 with
            | true =>
              rw [h2, cond_true] at h
              obtain ⟨hi, hret⟩ := fx_kd_inv (Nat.eq_of_beq_eq_true h2)
              cases hh : Nat.beq (fx_hkn aux) 0 with
              | false =>
                simp only [hh, cond_false] at h
                exact fx_hk_ok (IH fr lo M stop false) hf hx hi hret h
              | true =>
                simp only [hh, cond_true] at h
                split at h
                · cases h
                · rename_i q hq
                  obtain ⟨M', vs, S'⟩ := q
                  unfold fx_cl at h
                  simp only at h
                  cases hg : (Nat.ble 1 fr && Nat.ble (M'.2.2.1 + 19) lo && Nat.ble (fx_sl vs) M'.2.2.1 && Nat.ble (fx_sl S') 8) with
                  | false => rw [hg, cond_false] at h; cases h
                  | true =>
                    rw [hg, cond_true] at h
                    split at h
                    · cases h
                    · rename_i c2 hc2
                      split at h
                      · cases h
                      · rename_i rv hrv
                        have H2 := IH _ _ _ _ _ _ _ _ _ _ _ _ _ hc2
                        have H3 := IH _ _ _ _ _ _ _ _ _ _ _ _ _ h
                        intro w' hw hI
                        obtain ⟨w2', a1, a2⟩ := H2 w' hw hI
                        obtain ⟨w3', b1, b2⟩ := H3 w2' a2.1 (hI.go a2)
                        refine ⟨w3', ?_, a2.tr b2⟩
                        unfold sx_ex
                        have hf : (!fst && Nat.beq (r, L, S, w', nx, k, n).1 stop) = false := hf
                        have hx : sx_row M (r, L, S, w', nx, k, n).1 = some (pc, ins, len, aux, cst) := hx
                        have hr : sx_isret (pc, ins, len, aux, cst).2.1 = false := hret
                        have hs : sx_step1 B M.2.2.1 (pc, ins, len, aux, cst) (r, L, S, w', nx, k, n) = none := fx_inv hi B M.2.2.1 pc len aux cst _
                        have hp := fx_prep_ok hq hw hi pc len cst r nx k n L
                        rw [fx_sl_eq, fx_sl_eq] at hg
                        rw [fx_ent_eq] at a1
                        have hrt := fx_ret_ok hrv c2.2.1 w2' c2.2.2.2.2.1 c2.2.2.2.2.2.1 c2.2.2.2.2.2.2
                        simp only [hf, cond_false, hx, hr, hs, hp, hg, cond_true, a1, hrt]
                        exact b1
            | false =>
              rw [h2, cond_false] at h
              have hret : sx_isret ins = false := by
                rcases fx_kd_sh h0 h1 h2 with ⟨e, -⟩ | ⟨e, -⟩ <;> (rw [e]; rfl)
              simp only at h
              cases hq : sx_pure B M.2.2.1 ins L S with
              | some q =>
                simp only [hq] at h
                refine (IH _ _ _ _ _ _ _ _ _ _ _ _ _ h).step hf hx hret (fun w' hw hI => ⟨w', fx_go.rf hw, Or.inl ?_⟩)
                unfold sx_step1
                simp only [hq]
              | none =>
                simp only [hq] at h
                cases aux with
                | cons a t => cases h
                | nil =>
                  simp only at h
                  cases hS1 : fx_sh (bif Nat.beq (fx_kd ins) 3 then -1 else 1) B S with
                  | none => simp only [hS1] at h; cases h
                  | some S1 =>
                    simp only [hS1] at h
                    refine (IH _ _ _ _ _ _ _ _ _ _ _ _ _ h).step hf hx hret (fun w' hw hI => ⟨w', fx_go.rf hw, Or.inr ?_⟩)
                    have hno : ∀ j t : Nat, ([] : List Nat) ≠ [9, j, t] := fun j t e => by cases e
                    obtain ⟨s1, s2⟩ := fx_sh_ok (B := B) (S := S) (S1 := S1) fr lo M pc len [] cst r nx k n L w' hno
                    have pm : ∀ c : sx_S, sx_pra B fr lo M (pc, ins, len, [], cst) c = sx_prm B fr lo M (pc, ins, len, [], cst) c := fun c => by
                      have e : sx_hkn (pc, ins, len, [], cst) = 0 := by
                        unfold sx_hkn
                        cases sx_isinv ins <;> rfl
                      unfold sx_pra
                      rw [e]
                      rfl
                    have np : ∀ c : sx_S, sx_isinv ins = false → sx_prep sx_p9 (pc, ins, len, [], cst) c = none := fun c e => by
                      unfold sx_prep
                      simp only [e]
                      rfl
                    rw [pm]
                    rcases fx_kd_sh h0 h1 h2 with ⟨e, ek⟩ | ⟨e, ek⟩
                    · rw [ek] at hS1
                      subst e
                      refine ⟨?_, np _ rfl, s1 hS1⟩
                      have hw9 := fx_swN (ins := .lshr) rfl [] S
                      unfold sx_step1
                      simp only [hq, hw9]
                      rfl
                    · rw [ek] at hS1
                      subst e
                      refine ⟨?_, np _ rfl, s2 hS1⟩
                      have hw9 := fx_swN (ins := .lushr) rfl [] S
                      unfold sx_step1
                      simp only [hq, hw9]
                      rfl
