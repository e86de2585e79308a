/-! the law's loops -/
theorem lp_act {A : Nat} {x y w : Int} {N : Int} (hA : A < 6) (hx : -N ≤ x ∧ x ≤ N) (hN : 6 ≤ N) (hy : -6 ≤ y ∧ y ≤ 6) (h : gs_act A x y = some w) : -(6 * N) ≤ w ∧ w ≤ 6 * N := by
  have hA' : A = 0 ∨ A = 1 ∨ A = 2 ∨ A = 3 ∨ A = 4 ∨ A = 5 := by omega
  rcases hA' with rfl | rfl | rfl | rfl | rfl | rfl <;> simp only [gs_act] at h
  · have h := Option.some.inj h
    omega
  · have h := Option.some.inj h
    omega
  · have h := Option.some.inj h
    have hk : y = -6 ∨ y = -5 ∨ y = -4 ∨ y = -3 ∨ y = -2 ∨ y = -1 ∨ y = 0 ∨ y = 1 ∨ y = 2 ∨ y = 3 ∨ y = 4 ∨ y = 5 ∨ y = 6 := by omega
    rcases hk with rfl | rfl | rfl | rfl | rfl | rfl | rfl | rfl | rfl | rfl | rfl | rfl | rfl <;> omega
  · split at h
    · have h := Option.some.inj h
      omega
    · cases h
  · split at h
    · have h := Option.some.inj h
      omega
    · cases h
  · split at h
    · have h := Option.some.inj h
      omega
    · cases h
/-- from here the law comes to its end, with yes -/
def gl_F (z : Nat → Nat) (σ : Nat → Int) (c : sx_Pt) (n0 : Nat) : Prop := ∃ (σ' : Nat → Int) (B' : Nat → List (Nat × sx_C)), gx_H 40 sm_L_law 18 726 (9 * (3801 - n0)) (135 * (3801 - n0)) z σ c σ' (bk_pt 318 [] [gn_c 1] B' 300)
section LF
variable {z : Nat → Nat} {σ σ1 : Nat → Int} {c c1 : sx_Pt} {n0 n : Nat}
theorem gl_F.st (hF : gl_F z σ1 c1 n0) (h : gx_H 40 sm_L_law 18 726 0 0 z σ c σ1 c1) : gl_F z σ c n0 := by
  obtain ⟨σ', B', g⟩ := hF
  exact ⟨σ', B', (gx_H.tr (Nat.le_refl 40) (Nat.le_refl 40) h g).mono (Nat.le_refl _) (Nat.le_refl _) (Nat.le_refl _) (by omega) (by omega)⟩
theorem gl_F.nx (hF : gl_F z σ1 c1 n) (hn : n0 ≤ n) (hn2 : n ≤ 3801) (h : gx_H 40 sm_L_law 18 726 (9 * (n - n0)) (135 * (n - n0)) z σ c σ1 c1) : gl_F z σ c n0 := by
  obtain ⟨σ', B', g⟩ := hF
  exact ⟨σ', B', (gx_H.tr (Nat.le_refl 40) (Nat.le_refl 40) h g).mono (Nat.le_refl _) (Nat.le_refl _) (Nat.le_refl _) (by omega) (by omega)⟩
end LF
/-- next from this world comes to go's world -/
def gl_E (z : Nat → Nat) (τ : Nat → Int) (B0 B : Nat → List (Nat × sx_C)) : Prop := gw B0 ∧ bk_OK B ∧ (∃ fs, sx_lk (B 0) 1 = some (.inl (10, fs))) ∧ ∀ σ : Nat → Int, (∀ u, u < 1000 → σ u = τ u) → gx_G 40 sm_X12_next 17 700 0 0 z σ (bk_pt 0 gn_nL [] B0 300) σ (bk_pt 34 gn_nL1 [gn_c 4000, sx_id 1] B 300)
/-- the search stands so, or no more may be given -/
def gl_J (q : gs_P) (s : gr_S) (z : Nat → Nat) (σ : Nat → Int) (B0 : Nat → List (Nat × sx_C)) (n0 n : Nat) (T : (Nat → Int) → (Nat → List (Nat × sx_C)) → Int → Prop) : Prop := ∃ (τ : Nat → Int) (B : Nat → List (Nat × sx_C)), gl_E z τ B0 B ∧ (∀ u, u < 1000 → σ u = τ u) ∧ 0 ≤ σ 1038 ∧ ((σ 1038 < q.m ∧ T τ B (q.m - σ 1038)) ∨ (σ 1038 = q.m ∧ gr_End z τ B n0 n (pEND s gn_LB)))
section LJ
variable {q : gs_P} {s : gr_S} {z : Nat → Nat} {σ σ' : Nat → Int} {B0 : Nat → List (Nat × sx_C)} {n0 n n' : Nat} {T T' : (Nat → Int) → (Nat → List (Nat × sx_C)) → Int → Prop}
theorem gl_J.w (h : gl_J q s z σ B0 n0 n T) : gw B0 := by
  obtain ⟨τ, B, hE, -⟩ := h
  exact hE.1
theorem gl_J.mv (h : gl_J q s z σ B0 n0 n T) (hσ : ∀ u, u < 1000 → σ' u = σ u) (h38 : σ' 1038 = σ 1038) : gl_J q s z σ' B0 n0 n T := by
  obtain ⟨τ, B, hE, ha, h0, h1⟩ := h
  refine ⟨τ, B, hE, fun u hu => (hσ u hu).trans (ha u hu), ?_, ?_⟩
  · rw [h38]
    exact h0
  · rw [h38]
    exact h1
theorem gl_J.imp (h : gl_J q s z σ B0 n0 n T) (hn : n ≤ n') (hT : ∀ τ B i, T τ B i → T' τ B i) : gl_J q s z σ B0 n0 n' T' := by
  obtain ⟨τ, B, hE, ha, h0, h1⟩ := h
  refine ⟨τ, B, hE, ha, h0, ?_⟩
  rcases h1 with ⟨h1, h2⟩ | ⟨h1, h2⟩
  · exact .inl ⟨h1, hT _ _ _ h2⟩
  · exact .inr ⟨h1, h2.mono hn⟩
end LJ
/-- what lies below 41 is alike -/
theorem lp_fix {q : gs_P} {σ σ' : Nat → Int} (h : ∀ u, u < 41 → σ' u = σ u) (hf : gs_fix q σ) : gs_fix q σ' := by
  unfold gs_fix
  rw [h 37 (by decide), h 11 (by decide), h 12 (by decide), h 32 (by decide), h 33 (by decide), h 34 (by decide), h 35 (by decide), h 36 (by decide), h 8 (by decide), h 28 (by decide), h 29 (by decide)]
  exact hf
theorem lp_v {q : gs_P} {σ σ' : Nat → Int} {i x y v : Int} {k m : Bool} (h : ∀ u, u < 41 → σ' u = σ u) (hv : gr_v q i x y k v m σ) : gr_v q i x y k v m σ' := by
  unfold gr_v gr_y gr_x
  rw [h 16 (by decide), h 10 (by decide), h 13 (by decide), h 14 (by decide)]
  exact hv
section LP
variable {q : gs_P} {s : gr_S} {z : Nat → Nat}
theorem lp_EO {τ : Nat → Int} {k m j r : Bool} (h20 : 0 ≤ τ 20 ∧ τ 20 ≤ 36000) : gl_E z τ (bOPEN s k m j r) (bRO s k m j r) := by
  refine ⟨gw_OPEN _ _ _ _ _ _ _ _ _ _ _ _, gpo_RO _ _ _ _ _ _ _ _ _ _ _ _ gn_lb, ⟨_, rfl⟩, fun σ hσ => ⟨fun _ _ => rfl, ?_⟩⟩
  have e20 : σ 20 = τ 20 := hσ 20 (by decide)
  exact tn_n_2 s.a s.b s.c s.d s.e s.f s.g s.h k m j r (bk_F1 (by simp only [sx_ev, sx_evl, gs_ofNat, gs_neg]; omega) bk_F0) gs_t0
theorem lp_EI {τ : Nat → Int} (h20 : 0 ≤ τ 20 ∧ τ 20 ≤ 36000) : gl_E z τ (bIDLE s) (bNEW s) := by
  refine ⟨gw_IDLE _ _ _ _ _ _ _ _, gpo_NEW _ _ _ _ _ _ _ _ gn_lb, ⟨_, rfl⟩, fun σ hσ => ⟨fun _ _ => rfl, ?_⟩⟩
  have e20 : σ 20 = τ 20 := hσ 20 (by decide)
  exact tn_n_1 s.a s.b s.c s.d s.e s.f s.g s.h (bk_F1 (by simp only [sx_ev, sx_evl, gs_ofNat, gs_neg]; omega) bk_F0) gs_t0
/-- the end: next gives 0, then -2, and nothing is told -/
theorem lp_end (H : grk_ok q s gn_LB) {σ τ : Nat → Int} {B0 B : Nat → List (Nat × sx_C)} {n0 n : Nat} (hp : gl_p q σ) (hE : gl_E z τ B0 B) (ha : ∀ u, u < 1000 → σ u = τ u) (hr : gr_End z τ B n0 n (pEND s gn_LB)) (hn : n ≤ 3801) : gl_F z σ (bk_pt 299 gl_L9 [] B0 300) n0 := by
  obtain ⟨σ1, p1, a1, g1⟩ := gl_e1 (z := z) hE.1 H.2.1 hp
  obtain ⟨σ2, g2⟩ := go_0 (s := s) hE.2.1 hE.2.2.1 hE.2.2.2 hr (fun u hu => (a1 u hu).trans (ha u hu))
  have g3 := gn_law (L := [(1, sx_id 0)]) (r := 302) (pc := 564) (rr := 39) (c := 0) rfl hE.1.1 hE.1.2.1 (fun w => (gn_retw w (gx_mk [])).trans (gn_reto (by decide +kernel))) rfl g2
  have p2 : gl_p q σ2 := by
    have h := g3.1
    unfold gl_p
    rw [h 1020 (by decide), h 1021 (by decide), h 1022 (by decide), h 1023 (by decide), h 1024 (by decide), h 1025 (by decide), h 1033 (by decide), h 1034 (by decide), h 1035 (by decide), h 1036 (by decide), h 1037 (by decide)]
    exact p1
  have hW : gw (bEND s) := gw_END _ _ _ _ _ _ _ _
  obtain ⟨σ4, p4, a4, g4⟩ := gl_e2 (z := z) hW H.2.1 p2
  have g5 := gn_law (L := [(1, sx_id 0)]) (r := 307) (pc := 575) (rr := 20) (c := -2) (z := z) (dk := 0) (ds := 0) (σ := σ4) (σ1 := σ4) rfl hW.1 hW.2.1 (fun w => (gn_retw w (gx_mk [])).trans (gn_reto (by decide +kernel))) rfl ⟨fun _ _ => rfl, tn_n_z s.a s.b s.c s.d s.e s.f s.g s.h bk_F0 gs_t0⟩
  obtain ⟨σ6, p6, a6, g6⟩ := gl_e3 (z := z) hW H.2.1 p4
  obtain ⟨σ8, p8, a8, g8⟩ := gl_e4 (z := z) hW H.2.1 p6
  have F1 : gl_F z σ2 (bk_pt 303 [(1, sx_id 0)] [gn_c 0] (bEND s) 300) n := gl_F.st (gl_F.st (gl_F.st (gl_F.st (gl_F.st (⟨σ8, _, gx_H.rf.mono (Nat.le_refl _) (Nat.le_refl _) (Nat.le_refl _) (Nat.zero_le _) (Nat.zero_le _)⟩ : gl_F z σ8 (bk_pt 318 [] [gn_c 1] (bEND s) 300) n) g8) (gi_told s)) g6) g5.2) g4
  exact (F1.nx hr.1 hn g3.2).st g1
/-- one of g and h -/
theorem lp_k (H : grk_ok q s gn_LB) (j : Bool) {σ : Nat → Int} {B0 : Nat → List (Nat × sx_C)} {n0 n C : Nat} {x y v : Int} {k : Bool} (hp : gl_p q σ) (e41 : σ 1041 = v) (hv : -100 ≤ v ∧ v ≤ 100) (hJ : gl_J q s z σ B0 n0 n (fun τ B i => gr_V q s gn_LB z τ B n0 n i x y k v j)) (hn : (n : Int) + 3 * (q.m - σ 1038) + 2 + (C : Int) ≤ 3800)
    (K : ∀ (σ' : Nat → Int) (B0' : Nat → List (Nat × sx_C)) (n0' n' : Nat), gl_p q σ' → σ' 1039 = σ 1039 → σ' 1040 = σ 1040 → σ' 1041 = v → (n' : Int) + 3 * (q.m - σ' 1038) + (C : Int) ≤ 3800 → gl_J q s z σ' B0' n0' n' (fun τ B i => gr_A q s gn_LB z τ B n0' n' i x y k v j) → gl_F z σ' (bk_pt 249 (gl_L11 (cond j 2 1)) [] B0' 300) n0') : gl_F z σ (bk_pt 249 (gl_L11 (cond j 1 0)) [] B0 300) n0 := by
  have hq := H.2.1
  have hm : 2 ≤ q.m ∧ q.m ≤ 41 := hq.2.2.2.2
  have hg : -6 ≤ gr_g q j ∧ gr_g q j ≤ 6 := gr_g_r hq
  have hBB : q.B < 6 := hq.2.2.2.1.2
  have hJ0 := hJ
  obtain ⟨τ, B, hE, ha, h0, h1⟩ := hJ
  have hgm : σ 1038 ≤ q.m := by
    rcases h1 with ⟨h1, -⟩ | ⟨h1, -⟩ <;> omega
  cases hw : gs_act q.B v (gr_g q j) with
  | none =>
    obtain ⟨σ', p', a', e38, e39, e40, e41', g'⟩ : ∃ σ' : Nat → Int, gl_p q σ' ∧ (∀ u, u < 1000 → σ' u = σ u) ∧ σ' 1038 = σ 1038 ∧ σ' 1039 = σ 1039 ∧ σ' 1040 = σ 1040 ∧ σ' 1041 = σ 1041 ∧ gx_H 40 sm_L_law 18 726 0 0 z σ (bk_pt 249 (gl_L11 (cond j 1 0)) [] B0 300) σ' (bk_pt 249 (gl_L11 (cond j 2 1)) [] B0 300) := by
      cases j
      · exact gl_w0x hE.1 hq hp (by rw [e41]; exact hv) (by rw [e41]; exact hw)
      · exact gl_w1x hE.1 hq hp (by rw [e41]; exact hv) (by rw [e41]; exact hw)
    refine (K σ' B0 n0 (n + 2) p' e39 e40 (e41'.trans e41) (by omega) ?_).st g'
    exact (hJ0.imp (n' := n + 2) (by omega) (fun τ B i hr => gr_VA H hr hv hw (by omega))).mv a' e38
  | some w =>
    have hwr : -999 ≤ w ∧ w ≤ 999 := by
      have := lp_act (N := 100) hBB hv (by decide) hg hw
      omega
    obtain ⟨σ1, p1, a1, e38, e39, e40, e41', e42, g1⟩ : ∃ σ' : Nat → Int, gl_p q σ' ∧ (∀ u, u < 1000 → σ' u = σ u) ∧ σ' 1038 = σ 1038 ∧ σ' 1039 = σ 1039 ∧ σ' 1040 = σ 1040 ∧ σ' 1041 = σ 1041 ∧ σ' 1042 = w ∧ gx_H 40 sm_L_law 18 726 0 0 z σ (bk_pt 249 (gl_L11 (cond j 1 0)) [] B0 300) σ' (bk_pt 270 (gl_L14 (cond j 1 0)) [] B0 300) := by
      cases j
      · exact gl_w0 hE.1 hq hp (by rw [e41]; exact hv) (by rw [e41]; exact hw)
      · exact gl_w1 hE.1 hq hp (by rw [e41]; exact hv) (by rw [e41]; exact hw)
    rcases h1 with ⟨h1, h2⟩ | ⟨h1, h2⟩
    · obtain ⟨σ2, p2, a2, f38, f39, f40, f41, f42, g2⟩ : ∃ σ' : Nat → Int, gl_p q σ' ∧ (∀ u, u < 1000 → σ' u = σ1 u) ∧ σ' 1038 = σ1 1038 ∧ σ' 1039 = σ1 1039 ∧ σ' 1040 = σ1 1040 ∧ σ' 1041 = σ1 1041 ∧ σ' 1042 = σ1 1042 ∧ gx_H 40 sm_L_law 18 726 0 0 z σ1 (bk_pt 270 (gl_L14 (cond j 1 0)) [] B0 300) σ' (bk_pt 277 (gl_L14 (cond j 1 0)) [gn_c 4000, gn_c 0, sx_id 0] B0 300) := by
        cases j
        · exact gl_n0 hE.1 hq p1 (by omega)
        · exact gl_n1 hE.1 hq p1 (by omega)
      obtain ⟨σ3, x3, c3, w3, g3⟩ := go_1 (s := s) (σ := σ2) H hE.2.1 hE.2.2.1 hE.2.2.2 (gr_VR H h2 hv hw (by omega)) (by omega) (by omega) (fun u hu => ((a2 u hu).trans (a1 u hu)).trans (ha u hu))
      have g4 := gn_law (L := gl_L14 (cond j 1 0)) (r := 277) (pc := 513) (rr := 39) (c := 1) rfl hE.1.1 hE.1.2.1 (fun w => (gn_retw w (gx_mk [])).trans (gn_reto (by decide +kernel))) rfl g3
      have k3 : ∀ u, 1000 ≤ u → σ3 u = σ2 u := g4.1
      have p3 : gl_p q σ3 := by
        unfold gl_p
        rw [k3 1020 (by decide), k3 1021 (by decide), k3 1022 (by decide), k3 1023 (by decide), k3 1024 (by decide), k3 1025 (by decide), k3 1033 (by decide), k3 1034 (by decide), k3 1035 (by decide), k3 1036 (by decide), k3 1037 (by decide)]
        exact p2
      have b38 := k3 1038 (by decide)
      have b39 := k3 1039 (by decide)
      have b40 := k3 1040 (by decide)
      have b41 := k3 1041 (by decide)
      have b42 := k3 1042 (by decide)
      have hW : gw (bOPEN s k (gr_m q) j (gr_r q)) := gw_OPEN _ _ _ _ _ _ _ _ _ _ _ _
      obtain ⟨σ5, p5, a5, c38, c39, c40, c41, c42, g5⟩ : ∃ σ' : Nat → Int, gl_p q σ' ∧ (∀ u, u < 1000 → σ' u = σ3 u) ∧ σ' 1038 = σ3 1038 ∧ σ' 1039 = σ3 1039 ∧ σ' 1040 = σ3 1040 ∧ σ' 1041 = σ3 1041 ∧ σ' 1042 = σ3 1042 ∧ gx_H 40 sm_L_law 18 726 0 0 z σ3 (bk_pt 278 (gl_L14 (cond j 1 0)) [gn_c 1] (bOPEN s k (gr_m q) j (gr_r q)) 300) σ' (bk_pt 282 (gl_L14 (cond j 1 0)) [.inr (.inl (.ofNat 0, [(1042, .ofNat 1)])), sx_id 0] (bOPEN s k (gr_m q) j (gr_r q)) 300) := by
        cases j
        · exact gl_i0 hW hq p3
        · exact gl_i1 hW hq p3
      have h15 : σ5 (cond (gr_r q) 15 (cond j 36 35)) = w := by
        obtain ⟨-, -, -, -, -, -, x35, x36, -⟩ := x3
        cases hr : gr_r q with
        | true =>
          have h9 := w3.2.1 hr
          exact (a5 15 (by decide)).trans h9
        | false =>
          have h9 := w3.2.2 hr
          cases j
          · exact ((a5 35 (by decide)).trans x35).trans h9.symm
          · exact ((a5 36 (by decide)).trans x36).trans h9.symm
      obtain ⟨σ6, a6, g6⟩ := gi_law (z := z) s k (gr_m q) j (gr_r q) (k' := cond j 1 0) (σ := σ5) (w := w) (by omega) h15 hwr
      have p6 : gl_p q σ6 := by
        have h : ∀ u, 1000 ≤ u → σ6 u = σ5 u := fun u hu => a6 u (.inr (by omega))
        unfold gl_p
        rw [h 1020 (by decide), h 1021 (by decide), h 1022 (by decide), h 1023 (by decide), h 1024 (by decide), h 1025 (by decide), h 1033 (by decide), h 1034 (by decide), h 1035 (by decide), h 1036 (by decide), h 1037 (by decide)]
        exact p5
      have d38 := a6 1038 (.inr (by decide))
      have d39 := a6 1039 (.inr (by decide))
      have d40 := a6 1040 (.inr (by decide))
      have d41 := a6 1041 (.inr (by decide))
      obtain ⟨σ7, p7, a7, i39, i40, i41, i38, g7⟩ : ∃ σ' : Nat → Int, gl_p q σ' ∧ (∀ u, u < 1000 → σ' u = σ6 u) ∧ σ' 1039 = σ6 1039 ∧ σ' 1040 = σ6 1040 ∧ σ' 1041 = σ6 1041 ∧ σ' 1038 = σ6 1038 + 1 ∧ gx_H 40 sm_L_law 18 726 0 0 z σ6 (bk_pt 283 (gl_L14 (cond j 1 0)) [gn_c 1] (bOPEN s k (gr_m q) j (gr_r q)) 300) σ' (bk_pt 249 (gl_L11 (cond j 2 1)) [] (bOPEN s k (gr_m q) j (gr_r q)) 300) := by
        cases j
        · exact gl_g0 hW hq p6 (by omega)
        · exact gl_g1 hW hq p6 (by omega)
      have k7 : ∀ u, u < 41 → σ7 u = σ3 u := fun u hu => ((a7 u (by omega)).trans (a6 u (.inl hu))).trans (a5 u (by omega))
      have x7 : gs_fix q σ7 := lp_fix k7 x3
      have c7 : go_cnt (n + 2 + 1) σ7 := by
        obtain ⟨-, -, -, -, c5, c6, c7, c8, c9⟩ := c3
        unfold go_cnt
        rw [k7 19 (by decide), k7 20 (by decide)]
        omega
      have w7 : gr_v q (q.m - σ 1038 - 1) x y k v (gr_m q) σ7 := lp_v k7 w3.1
      have e9 : q.m - σ 1038 - 1 = q.m - σ7 1038 := by omega
      have h20 : 0 ≤ σ7 20 ∧ σ7 20 ≤ 36000 := by
        obtain ⟨c1, c2, c3, c4, c5⟩ := c7
        omega
      have F7 := K σ7 (bOPEN s k (gr_m q) j (gr_r q)) (n + 2 + 1) (n + 2 + 1 + 2) p7 (by omega) (by omega) (by omega) (by omega) ⟨σ7, bRO s k (gr_m q) j (gr_r q), lp_EO h20, fun _ _ => rfl, by omega, by
        rw [e9] at w7
        by_cases hl : σ7 1038 < q.m
        · exact .inl ⟨hl, go_A H x7 c7 w7 (by omega) (by omega)⟩
        · have e0 : q.m - σ7 1038 = 0 := by omega
          rw [e0] at w7
          exact .inr ⟨by omega, (go_E H x7 c7 w7).mono (by omega)⟩⟩
      exact (((((F7.st g7).st g6).st g5).nx (by have := h2.1; omega) (by omega) g4.2).st g2).st g1
    · obtain ⟨σ2, p2, a2, f38, f39, f40, f41, g2⟩ : ∃ σ' : Nat → Int, gl_p q σ' ∧ (∀ u, u < 1000 → σ' u = σ1 u) ∧ σ' 1038 = σ1 1038 ∧ σ' 1039 = σ1 1039 ∧ σ' 1040 = σ1 1040 ∧ σ' 1041 = σ1 1041 ∧ gx_H 40 sm_L_law 18 726 0 0 z σ1 (bk_pt 270 (gl_L14 (cond j 1 0)) [] B0 300) σ' (bk_pt 249 (gl_L11 (cond j 2 1)) [] B0 300) := by
        cases j
        · exact gl_f0 hE.1 hq p1 (by omega)
        · exact gl_f1 hE.1 hq p1 (by omega)
      refine ((K σ2 B0 n0 (n + 2) p2 (f39.trans e39) (f40.trans e40) ((f41.trans e41').trans e41) (by omega) ?_).st g2).st g1
      exact ⟨τ, B, hE, fun u hu => ((a2 u hu).trans (a1 u hu)).trans (ha u hu), by omega, .inr ⟨by omega, h2.mono (by omega)⟩⟩
/-- how far a walk may still go -/
def lp_far (v b t : Int) (p : Nat) : Prop := (0 < t → b < v + (p : Int) ∧ -6 ≤ v) ∧ (t < 0 → v - (p : Int) < b ∧ v ≤ 6) ∧ -12 ≤ v ∧ v ≤ 12
theorem lp_far_in {v b t : Int} {p : Nat} (h : lp_far v b t p) (hb : -6 ≤ b ∧ b ≤ 6) (ht : t ≠ 0) (hon : gs_on v b t) : -6 ≤ v ∧ v ≤ 6 ∧ 0 < p := by
  unfold lp_far at h
  unfold gs_on at hon
  rcases Int.lt_or_gt_of_ne ht with h9 | h9
  · have h1 := hon.2 h9
    have h2 := h.2.1 h9
    omega
  · have h1 := hon.1 h9
    have h2 := h.1 h9
    omega
theorem lp_far_st {v b t : Int} {p : Nat} (h : lp_far v b t (p + 1)) (hb : -6 ≤ b ∧ b ≤ 6) (ht : t ≠ 0 ∧ -3 ≤ t ∧ t ≤ 3) (hon : gs_on v b t) : lp_far (v + t) b t p := by
  obtain ⟨h1, h2, -⟩ := lp_far_in h hb ht.1 hon
  unfold lp_far at h ⊢
  rcases Int.lt_or_gt_of_ne ht.1 with h9 | h9
  · have h4 := h.2.1 h9
    omega
  · have h4 := h.1 h9
    omega
/-- the walk over y -/
theorem lp_y (H : grk_ok q s gn_LB) (R : Nat)
    (KX : ∀ (σ : Nat → Int) (B0 : Nat → List (Nat × sx_C)) (n0 n : Nat), gl_p q σ → lp_far (σ 1039) q.b q.y R → (n : Int) + 3 * (q.m - σ 1038) + 275 * (R : Int) ≤ 3800 → gl_J q s z σ B0 n0 n (fun τ B i => gr_X q s gn_LB z τ B n0 n i (σ 1039)) → gl_F z σ (bk_pt 222 gl_L9 [] B0 300) n0) :
    ∀ (p : Nat) (σ : Nat → Int) (B0 : Nat → List (Nat × sx_C)) (n0 n : Nat) (k : Bool), gl_p q σ → lp_far (σ 1039) q.b q.y (R + 1) → gs_on (σ 1039) q.b q.y → lp_far (σ 1040) q.e q.t p → (n : Int) + 3 * (q.m - σ 1038) + 20 * (p : Int) + 7 + 275 * (R : Int) ≤ 3800 → gl_J q s z σ B0 n0 n (fun τ B i => gr_Y q s gn_LB z τ B n0 n i (σ 1039) (σ 1040) k) → gl_F z σ (bk_pt 233 gl_L10 [] B0 300) n0 := by
  have hq := H.2.1
  obtain ⟨⟨q1, q2, q3, q4, q5, q6, q7, q8, q9, q10, q11, q12⟩, ⟨q13, q14, q15⟩, ⟨q16, q17, q18⟩, ⟨q19, q20⟩, q21, q22⟩ := H.2.1
  intro p
  induction p with
  | zero =>
    intro σ B0 n0 n k hp hfx hox hfy hn hJ
    have hoff : ¬ gs_on (σ 1040) q.e q.t := fun h9 => by
      have := (lp_far_in hfy ⟨q7, q8⟩ q18 h9).2.2
      omega
    have hxr := lp_far_in hfx ⟨q3, q4⟩ q15 hox
    have hgm : σ 1038 ≤ q.m ∧ 0 ≤ σ 1038 := by
      obtain ⟨τ, B, hE, ha, h0, h1⟩ := hJ
      rcases h1 with ⟨h1, -⟩ | ⟨h1, -⟩ <;> omega
    obtain ⟨σ1, p1, a1, e38, e39, e40, g1⟩ := gl_yx (z := z) hJ.w hq hp (by unfold lp_far at hfy; omega) hoff
    obtain ⟨σ2, p2, a2, f38, f39, g2⟩ := gl_xn (z := z) hJ.w hq p1 (by omega)
    have e9 : σ2 1039 = σ 1039 + q.y := by omega
    refine ((KX σ2 B0 n0 (n + 7) p2 (by rw [e9]; exact lp_far_st hfx ⟨q3, q4⟩ (by omega) hox) (by omega) ?_).st g2).st g1
    rw [e9]
    exact (hJ.imp (n' := n + 7) (by omega) (fun τ B i hr => gr_YX H hr hoff (by omega) (by omega))).mv (fun u hu => (a2 u hu).trans (a1 u hu)) (f38.trans e38)
  | succ p IH =>
    intro σ B0 n0 n k hp hfx hox hfy hn hJ
    have hxr := lp_far_in hfx ⟨q3, q4⟩ q15 hox
    have hgm : σ 1038 ≤ q.m ∧ 0 ≤ σ 1038 := by
      obtain ⟨τ, B, hE, ha, h0, h1⟩ := hJ
      rcases h1 with ⟨h1, -⟩ | ⟨h1, -⟩ <;> omega
    have hyr : -12 ≤ σ 1040 ∧ σ 1040 ≤ 12 := by unfold lp_far at hfy; omega
    by_cases hoy : gs_on (σ 1040) q.e q.t
    · have hy6 := lp_far_in hfy ⟨q7, q8⟩ q18 hoy
      have hfy' := lp_far_st hfy ⟨q7, q8⟩ (by omega) hoy
      obtain ⟨σ1, p1, a1, e38, e39, e40, g1⟩ := gl_y (z := z) hJ.w hq hp hyr hoy
      cases hv : gs_act q.A (σ 1039) (σ 1040) with
      | none =>
        obtain ⟨σ2, p2, a2, f38, f39, f40, f41, g2⟩ := gl_vx (z := z) hJ.w hq p1 (by omega) (by omega) (by rw [e39, e40]; exact hv)
        obtain ⟨σ3, p3, a3, b38, b39, b40, g3⟩ := gl_kx (z := z) hJ.w hq p2 f41
        obtain ⟨σ4, p4, a4, c38, c39, c40, g4⟩ := gl_yn (z := z) hJ.w hq p3 (by omega)
        have ex : σ4 1039 = σ 1039 := by omega
        have ey : σ4 1040 = σ 1040 + q.t := by omega
        refine ((((IH σ4 B0 n0 (n + 3) true p4 (by rw [ex]; exact hfx) (by rw [ex]; exact hox) (by rw [ey]; exact hfy') (by omega) ?_).st g4).st g3).st g2).st g1
        rw [ex, ey]
        exact (hJ.imp (n' := n + 3) (by omega) (fun τ B i hr => gr_YY H hr hoy (by omega) (by omega) hv (by omega))).mv (fun u hu => (((a4 u hu).trans (a3 u hu)).trans (a2 u hu)).trans (a1 u hu)) (by omega)
      | some v =>
        have hvr : -36 ≤ v ∧ v ≤ 36 := by
          have := lp_act (N := 6) q19 (x := σ 1039) (by omega) (by decide) (by omega) hv
          omega
        obtain ⟨σ2, p2, a2, f38, f39, f40, f41, g2⟩ := gl_v (z := z) hJ.w hq p1 (by omega) (by omega) (by rw [e39, e40]; exact hv)
        have J2 : gl_J q s z σ2 B0 n0 (n + 6) (fun τ B i => gr_V q s gn_LB z τ B n0 (n + 6) i (σ 1039) (σ 1040) k v false) := (hJ.imp (n' := n + 6) (by omega) (fun τ B i hr => gr_YV H hr hoy (by omega) (by omega) hv (by omega))).mv (fun u hu => (a2 u hu).trans (a1 u hu)) (by omega)
        refine ((lp_k H false (C := 12 + 20 * p + 7 + 275 * R) p2 f41 (by omega) J2 (by omega) ?_).st g2).st g1
        intro σ3 B3 n03 n3 p3 b39 b40 b41 hn3 J3
        have hgm3 : σ3 1038 ≤ q.m ∧ 0 ≤ σ3 1038 := by
          obtain ⟨τ, B, hE, ha, h0, h1⟩ := J3
          rcases h1 with ⟨h1, -⟩ | ⟨h1, -⟩ <;> omega
        refine lp_k H true (C := 5 + 20 * p + 7 + 275 * R) p3 b41 (by omega) (J3.imp (n' := n3 + 5) (by omega) (fun τ B i hr => gr_AV H hr (by omega))) (by omega) ?_
        intro σ4 B4 n04 n4 p4 c39 c40 c41 hn4 J4
        have hgm4 : σ4 1038 ≤ q.m ∧ 0 ≤ σ4 1038 := by
          obtain ⟨τ, B, hE, ha, h0, h1⟩ := J4
          rcases h1 with ⟨h1, -⟩ | ⟨h1, -⟩ <;> omega
        obtain ⟨σ5, p5, a5, d38, d39, d40, g5⟩ := gl_k2 (z := z) J4.w hq p4 (by omega)
        obtain ⟨σ6, p6, a6, i38, i39, i40, g6⟩ := gl_yn (z := z) J4.w hq p5 (by omega)
        have ex : σ6 1039 = σ 1039 := by omega
        have ey : σ6 1040 = σ 1040 + q.t := by omega
        refine ((IH σ6 B4 n04 (n4 + 5) true p6 (by rw [ex]; exact hfx) (by rw [ex]; exact hox) (by rw [ey]; exact hfy') (by omega) ?_).st g6).st g5
        rw [ex, ey]
        exact (J4.imp (n' := n4 + 5) (by omega) (fun τ B i hr => gr_AY H hr (by omega) (by omega))).mv (fun u hu => (a6 u hu).trans (a5 u hu)) (by omega)
    · obtain ⟨σ1, p1, a1, e38, e39, e40, g1⟩ := gl_yx (z := z) hJ.w hq hp hyr hoy
      obtain ⟨σ2, p2, a2, f38, f39, g2⟩ := gl_xn (z := z) hJ.w hq p1 (by omega)
      have e9 : σ2 1039 = σ 1039 + q.y := by omega
      refine ((KX σ2 B0 n0 (n + 7) p2 (by rw [e9]; exact lp_far_st hfx ⟨q3, q4⟩ (by omega) hox) (by omega) ?_).st g2).st g1
      rw [e9]
      exact (hJ.imp (n' := n + 7) (by omega) (fun τ B i hr => gr_YX H hr hoy (by omega) (by omega))).mv (fun u hu => (a2 u hu).trans (a1 u hu)) (f38.trans e38)
/-- the walk over x -/
theorem lp_x (H : grk_ok q s gn_LB) : ∀ (R : Nat) (σ : Nat → Int) (B0 : Nat → List (Nat × sx_C)) (n0 n : Nat), gl_p q σ → lp_far (σ 1039) q.b q.y R → (n : Int) + 3 * (q.m - σ 1038) + 275 * (R : Int) ≤ 3800 → gl_J q s z σ B0 n0 n (fun τ B i => gr_X q s gn_LB z τ B n0 n i (σ 1039)) → gl_F z σ (bk_pt 222 gl_L9 [] B0 300) n0 := by
  have hq := H.2.1
  obtain ⟨⟨q1, q2, q3, q4, q5, q6, q7, q8, q9, q10, q11, q12⟩, ⟨q13, q14, q15⟩, ⟨q16, q17, q18⟩, ⟨q19, q20⟩, q21, q22⟩ := H.2.1
  have off : ∀ (R : Nat) (σ : Nat → Int) (B0 : Nat → List (Nat × sx_C)) (n0 n : Nat), gl_p q σ → lp_far (σ 1039) q.b q.y R → (n : Int) + 3 * (q.m - σ 1038) + 275 * (R : Int) ≤ 3800 → gl_J q s z σ B0 n0 n (fun τ B i => gr_X q s gn_LB z τ B n0 n i (σ 1039)) → ¬ gs_on (σ 1039) q.b q.y → gl_F z σ (bk_pt 222 gl_L9 [] B0 300) n0 := by
    intro R σ B0 n0 n hp hfx hn hJ hoff
    obtain ⟨σ1, p1, a1, e38, e39, g1⟩ := gl_xx (z := z) hJ.w hq hp (by unfold lp_far at hfx; omega) hoff
    obtain ⟨τ, B, hE, ha, h0, h1⟩ := hJ
    have hr : gr_End z τ B n0 n (pEND s gn_LB) ∧ σ 1038 ≤ q.m := by
      rcases h1 with ⟨h1, h2⟩ | ⟨h1, h2⟩
      · exact ⟨h2.2 hoff, by omega⟩
      · exact ⟨h2, by omega⟩
    exact (lp_end H p1 hE (fun u hu => (a1 u hu).trans (ha u hu)) hr.1 (by omega)).st g1
  intro R
  induction R with
  | zero =>
    intro σ B0 n0 n hp hfx hn hJ
    exact off 0 σ B0 n0 n hp hfx hn hJ (fun h9 => by
      have := (lp_far_in hfx ⟨q3, q4⟩ q15 h9).2.2
      omega)
  | succ R IH =>
    intro σ B0 n0 n hp hfx hn hJ
    by_cases hox : gs_on (σ 1039) q.b q.y
    · obtain ⟨σ1, p1, a1, e38, e39, g1⟩ := gl_x (z := z) hJ.w hq hp (by unfold lp_far at hfx; omega) hox
      obtain ⟨σ2, p2, a2, f38, f39, f40, g2⟩ := gl_y0 (z := z) hJ.w hq p1
      have hgm : σ 1038 ≤ q.m ∧ 0 ≤ σ 1038 := by
        obtain ⟨τ, B, hE, ha, h0, h1⟩ := hJ
        rcases h1 with ⟨h1, -⟩ | ⟨h1, -⟩ <;> omega
      have ex : σ2 1039 = σ 1039 := by omega
      refine ((lp_y H R IH 13 σ2 B0 n0 (n + 8) false p2 (by rw [ex]; exact hfx) (by rw [ex]; exact hox) (by rw [f40]; unfold lp_far; omega) (by omega) ?_).st g2).st g1
      rw [ex, f40]
      exact (hJ.imp (n' := n + 8) (by omega) (fun τ B i hr => gr_XY H hr hox (by omega))).mv (fun u hu => (a2 u hu).trans (a1 u hu)) (by omega)
    · exact off (R + 1) σ B0 n0 n hp hfx hn hJ hox
/-- FROM THE GOAL'S WORLD THE LAW COMES TO ITS END, WITH YES -/
theorem lp_all (H : grk_ok q s gn_LB) {σ : Nat → Int} (hp : gl_p q σ) (hf : gs_fix q σ) (hc : go_cnt 0 σ) : gl_F z σ (bk_pt 216 gl_L7 [] (bIDLE s) 300) 0 := by
  have hq := H.2.1
  obtain ⟨⟨q1, q2, q3, q4, q5, q6, q7, q8, q9, q10, q11, q12⟩, ⟨q13, q14, q15⟩, ⟨q16, q17, q18⟩, ⟨q19, q20⟩, q21, q22⟩ := H.2.1
  have h20 : 0 ≤ σ 20 ∧ σ 20 ≤ 36000 := by
    obtain ⟨c1, c2, c3, c4, c5⟩ := hc
    omega
  have hE : gl_E z σ (bIDLE s) (bNEW s) := lp_EI h20
  obtain ⟨σ1, p1, a1, e38, e39, g1⟩ := gl_a (z := z) hE.1 hq hp
  refine (lp_x H 13 σ1 (bIDLE s) 0 11 p1 (by rw [e39]; unfold lp_far; omega) (by omega) ?_).st g1
  refine ⟨σ, bNEW s, hE, a1, by omega, .inl ⟨by omega, ?_⟩⟩
  rw [e38, e39, show q.m - 0 = q.m from by omega]
  exact go_X H hf hc
end LP
