/-! from an idle state into the search, from the search out again -/
noncomputable def bIDLE (s : gr_S) : Nat → List (Nat × sx_C) := gp_IDLE s.a s.b s.c s.d s.e s.f s.g s.h gn_LB
noncomputable def bNEW (s : gr_S) : Nat → List (Nat × sx_C) := gp_NEW s.a s.b s.c s.d s.e s.f s.g s.h gn_LB
noncomputable def bOPEN (s : gr_S) (k m j r : Bool) : Nat → List (Nat × sx_C) := gp_OPEN s.a s.b s.c s.d s.e s.f s.g s.h k m j r gn_LB
noncomputable def bRO (s : gr_S) (k m j r : Bool) : Nat → List (Nat × sx_C) := gp_RO s.a s.b s.c s.d s.e s.f s.g s.h k m j r gn_LB
noncomputable def bEND (s : gr_S) : Nat → List (Nat × sx_C) := gp_END s.a s.b s.c s.d s.e s.f s.g s.h gn_LB
section GO
variable {q : gs_P} {s : gr_S} {z : Nat → Nat} {τ : Nat → Int} {n0 n : Nat} {i x y v w : Int} {k m j r : Bool}
theorem go_nil (σ : Nat → Int) : sx_σi [] σ = σ := rfl
/-- what agrees below 1000 is alike in what is fixed -/
theorem go_fix {σ : Nat → Int} (h : ∀ u, u < 1000 → σ u = τ u) (hf : gs_fix q τ) : gs_fix q σ := by
  unfold gs_fix
  rw [h 37 (by decide), h 11 (by decide), h 12 (by decide), h 32 (by decide), h 33 (by decide), h 34 (by decide), h 35 (by decide), h 36 (by decide), h 8 (by decide), h 28 (by decide), h 29 (by decide)]
  exact hf
/-- the counters that last -/
def go_cnt (n : Nat) (τ : Nat → Int) : Prop := 0 ≤ τ 19 ∧ τ 19 ≤ 1000 + (n : Int) ∧ 0 ≤ τ 20 ∧ τ 20 ≤ 1000 + (n : Int) ∧ n ≤ 3800
theorem go_in {σ : Nat → Int} (h : ∀ u, u < 1000 → σ u = τ u) (hf : gs_fix q τ) (hc : go_cnt n τ) : gs_fix q (sx_σi [(17, (.ofNat 4000, [])), (18, (.ofNat 0, []))] σ) ∧ gs_cnt n (sx_σi [(17, (.ofNat 4000, [])), (18, (.ofNat 0, []))] σ) ∧ ∀ u, u < 1000 → u ≠ 17 → u ≠ 18 → sx_σi [(17, (.ofNat 4000, [])), (18, (.ofNat 0, []))] σ u = τ u := by
  obtain ⟨c1, c2, c3, c4, c5⟩ := hc
  have e17 : sx_σi [(17, (.ofNat 4000, [])), (18, (.ofNat 0, []))] σ 17 = 4000 := rfl
  have e18 : sx_σi [(17, (.ofNat 4000, [])), (18, (.ofNat 0, []))] σ 18 = 0 := rfl
  have e19 : sx_σi [(17, (.ofNat 4000, [])), (18, (.ofNat 0, []))] σ 19 = τ 19 := h 19 (by decide)
  have e20 : sx_σi [(17, (.ofNat 4000, [])), (18, (.ofNat 0, []))] σ 20 = τ 20 := h 20 (by decide)
  refine ⟨gs_fix_of rfl (go_fix h hf), ?_, fun u hu h1 h2 => ?_⟩
  · unfold gs_cnt
    rw [e17, e18, e19, e20]
    omega
  · rw [← h u hu]
    refine gs_none ?_
    show ((bif Nat.beq 17 u then some _ else bif Nat.beq 18 u then some _ else none : Option sx_I)).isNone = true
    rw [show Nat.beq 17 u = false from by cases e : Nat.beq 17 u with
      | false => rfl
      | true => exact absurd (Nat.eq_of_beq_eq_true e).symm h1, show Nat.beq 18 u = false from by cases e : Nat.beq 18 u with
      | false => rfl
      | true => exact absurd (Nat.eq_of_beq_eq_true e).symm h2]
    rfl
/-- resumed -/
theorem go_RO (hf : gs_fix q τ) (hc : go_cnt n τ) (hA : gr_v q i x y k v m τ) : gr_Rd q z τ (bRO s k m j r) n n (gr_v q i x y k v m) (bk_pt 4 xL [] (bRO s k m j r) 300) := by
  refine ⟨Nat.le_refl _, fun σ hσ => ?_⟩
  obtain ⟨a1, a2, a3⟩ := go_in hσ hf hc
  refine ⟨_, a1, a2, ⟨⟨⟨(a3 16 (by decide) (by decide) (by decide)).trans hA.1.1.1, (a3 10 (by decide) (by decide) (by decide)).trans hA.1.1.2⟩, fun e => (a3 13 (by decide) (by decide) (by decide)).trans (hA.1.2.1 e), hA.1.2.2⟩, fun e => (a3 14 (by decide) (by decide) (by decide)).trans (hA.2.1 e), hA.2.2⟩, gs_lo rfl, ?_⟩
  exact (tn_go_RO s.a s.b s.c s.d s.e s.f s.g s.h k m j r (z := z) (σ := σ) bk_F0 gs_t0).mono (Nat.le_refl _) (Nat.le_refl _) (Nat.le_refl _) (Nat.zero_le _) (Nat.zero_le _)
theorem go_A (H : grk_ok q s gn_LB) (hf : gs_fix q τ) (hc : go_cnt n τ) (hA : gr_v q i x y k v (gr_m q) τ) (hi : 1 ≤ i ∧ i ≤ 50) (hn : n + 2 ≤ 3800) : gr_A q s gn_LB z τ (bRO s k (gr_m q) j (gr_r q)) n (n + 2) i x y k v j :=
  (go_RO (z := z) (s := s) (j := j) (r := gr_r q) hf hc hA).ext 2 (by decide) fun σ hf hc hA => by
    have hA1 := hA.1.1.1
    obtain ⟨σ', f1, c1, e1, e2, e3, e4, g1⟩ := gs_ro (z := z) (y := k) (v := gr_m q) (j := j) (r := gr_r q) H.1 H.2.1 H.2.2 hf hc (by rw [hA1]; exact hi) (by omega)
    exact ⟨σ', f1, c1, ⟨⟨⟨e1.trans hA.1.1.1, e2.trans hA.1.1.2⟩, fun e => e3.trans (hA.1.2.1 e), hA.1.2.2⟩, fun e => e4.trans (hA.2.1 e), hA.2.2⟩, g1⟩
theorem go_E (H : grk_ok q s gn_LB) (hf : gs_fix q τ) (hc : go_cnt n τ) (hA : gr_v q 0 x y k v (gr_m q) τ) : gr_End z τ (bRO s k (gr_m q) j (gr_r q)) n (n + 1) (pEND s gn_LB) :=
  (go_RO (z := z) (s := s) (j := j) (r := gr_r q) hf hc hA).fin fun σ hf hc hA => gs_rz (z := z) (y := k) (v := gr_m q) (j := j) (r := gr_r q) H.1 H.2.1 H.2.2 hf hc hA.1.1.1
/-- the first time -/
theorem go_X (H : grk_ok q s gn_LB) (hf : gs_fix q τ) (hc : go_cnt 0 τ) : gr_X q s gn_LB z τ (bNEW s) 0 11 q.m q.a := by
  have s0 : gr_Rd q z τ (bNEW s) 0 0 (fun _ => True) (bk_pt 4 xL [] (bNEW s) 300) := by
    refine ⟨Nat.le_refl _, fun σ hσ => ?_⟩
    obtain ⟨a1, a2, a3⟩ := go_in hσ hf hc
    exact ⟨_, a1, a2, trivial, gs_lo rfl, (tn_go_NEW s.a s.b s.c s.d s.e s.f s.g s.h (z := z) (σ := σ) bk_F0 gs_t0).mono (Nat.le_refl _) (Nat.le_refl _) (Nat.le_refl _) (Nat.zero_le _) (Nat.zero_le _)⟩
  have s1 : gr_Rd q z τ (bNEW s) 0 (0 + 4) (fun σ => σ 16 = q.m) (bk_pt 4 xL [] (gp_B1 s.a s.b s.c s.d s.e s.f s.g s.h gn_LB) 300) := s0.ext 4 (by decide) fun σ hf hc hA => by
    obtain ⟨σ', f1, c1, e1, g1⟩ := gs_q0 (z := z) H.1 H.2.1 H.2.2 hf hc (by omega)
    exact ⟨σ', f1, c1, e1, g1⟩
  constructor
  · intro hx
    exact (s1.ext 7 (by decide) fun σ hf hc hA => by
      obtain ⟨σ', f1, c1, e1, e2, g1⟩ := gs_b1 (z := z) H.1 H.2.1 H.2.2 hf hc hx (by omega)
      exact ⟨σ', f1, c1, ⟨e1.trans hA, e2⟩, g1⟩)
  · intro hx
    exact (s1.fin fun σ hf hc hA => gs_b1x (z := z) H.1 H.2.1 H.2.2 hf hc hx).mono (by decide)
/-- a result: next gives 1 -/
theorem go_1 (H : grk_ok q s gn_LB) {B0 B : Nat → List (Nat × sx_C)} (hB : bk_OK B) (hR : ∃ fs, sx_lk (B 0) 1 = some (.inl (10, fs))) (hp : ∀ σ : Nat → Int, (∀ u, u < 1000 → σ u = τ u) → gx_G 40 sm_X12_next 17 700 0 0 z σ (bk_pt 0 gn_nL [] B0 300) σ (bk_pt 34 gn_nL1 [gn_c 4000, sx_id 1] B 300)) (hr : gr_Rd q z τ B n0 n (gr_w q i x y k v j w) (pQR s k (gr_m q) j (gr_r q) gn_LB)) (hi : 0 ≤ i ∧ i ≤ 50) (hn : n + 1 ≤ 3800) {σ : Nat → Int} (hσ : ∀ u, u < 1000 → σ u = τ u) : ∃ σ' : Nat → Int, gs_fix q σ' ∧ gs_cnt (n + 1 : Nat) σ' ∧ gr_w q (i - 1) x y k v j w σ' ∧ gx_G 40 sm_X12_next 17 700 (9 * (n + 1 - n0)) (135 * (n + 1 - n0)) z σ (bk_pt 0 gn_nL [] B0 300) σ' (bk_pt 39 [] [gn_c 1] (bOPEN s k (gr_m q) j (gr_r q)) 300) := by
  have r2 : gr_Rd q z τ B n0 (n + 1) (gr_w q (i - 1) x y k v j w) (bk_pt 115 [] [] (bOPEN s k (gr_m q) j (gr_r q)) 300) := hr.ext 1 (by decide) fun σ hf hc hA => by
    have hA1 := hA.1.1.1.1
    obtain ⟨σ', f1, c1, e1, e2, e3, e4, e5, g1⟩ := gs_qr (z := z) (y := k) (v := gr_m q) (j := j) (r := gr_r q) H.1 H.2.1 H.2.2 hf hc (by rw [hA1]; exact hi) (by omega)
    exact ⟨σ', f1, c1, ⟨⟨⟨⟨e5.trans (by rw [hA1]), e1.trans hA.1.1.1.2⟩, fun e => e2.trans (hA.1.1.2.1 e), hA.1.1.2.2⟩, fun e => e3.trans (hA.1.2.1 e), hA.1.2.2⟩, fun e => e4.trans (hA.2.1 e), hA.2.2⟩, g1⟩
  obtain ⟨σ', f1, c1, a1, g1⟩ := r2.2 σ hσ
  refine ⟨σ', f1, c1, a1, ?_⟩
  have t1 := gx_G.tr (Nat.le_refl 40) (Nat.le_refl 40) (hp σ hσ) (gn_next hB hR g1)
  have t2 : gx_G 40 sm_X12_next 17 700 0 0 z σ' (bk_pt 35 gn_nL1 [] (bOPEN s k (gr_m q) j (gr_r q)) 300) σ' (bk_pt 39 [] [gn_c 1] (bOPEN s k (gr_m q) j (gr_r q)) 300) := ⟨fun _ _ => rfl, tn_n_t1 s.a s.b s.c s.d s.e s.f s.g s.h k (gr_m q) j (gr_r q) bk_F0 gs_t0⟩
  exact (gx_G.tr (Nat.le_refl 40) (Nat.le_refl 40) t1 t2).mono (Nat.le_refl _) (Nat.le_refl _) (Nat.le_refl _) (by omega) (by omega)
/-- no more: next gives 0 -/
theorem go_0 {B0 B : Nat → List (Nat × sx_C)} (hB : bk_OK B) (hR : ∃ fs, sx_lk (B 0) 1 = some (.inl (10, fs))) (hp : ∀ σ : Nat → Int, (∀ u, u < 1000 → σ u = τ u) → gx_G 40 sm_X12_next 17 700 0 0 z σ (bk_pt 0 gn_nL [] B0 300) σ (bk_pt 34 gn_nL1 [gn_c 4000, sx_id 1] B 300)) (hr : gr_End z τ B n0 n (pEND s gn_LB)) {σ : Nat → Int} (hσ : ∀ u, u < 1000 → σ u = τ u) : ∃ σ' : Nat → Int, gx_G 40 sm_X12_next 17 700 (9 * (n - n0)) (135 * (n - n0)) z σ (bk_pt 0 gn_nL [] B0 300) σ' (bk_pt 39 [] [gn_c 0] (bEND s) 300) := by
  obtain ⟨σ', g1⟩ := hr.2 σ hσ
  refine ⟨σ', ?_⟩
  have t1 := gx_G.tr (Nat.le_refl 40) (Nat.le_refl 40) (hp σ hσ) (gn_next hB hR g1)
  have t2 : gx_G 40 sm_X12_next 17 700 0 0 z σ' (bk_pt 35 gn_nL1 [] (bEND s) 300) σ' (bk_pt 39 [] [gn_c 0] (bEND s) 300) := ⟨fun _ _ => rfl, tn_n_t0 s.a s.b s.c s.d s.e s.f s.g s.h bk_F0 gs_t0⟩
  exact (gx_G.tr (Nat.le_refl 40) (Nat.le_refl 40) t1 t2).mono (Nat.le_refl _) (Nat.le_refl _) (Nat.le_refl _) (by omega) (by omega)
end GO
