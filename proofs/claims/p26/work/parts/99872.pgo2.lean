/-! behind the goal's call: the worlds told in blocks, first operand with a sign; the goal's call -/
theorem pc12_100000 : ∀ g h : Bool, pv12 true false false false false false g h = true := by decide +kernel
theorem pc12_100001 : ∀ g h : Bool, pv12 true false false false false true g h = true := by decide +kernel
theorem pc12_100010 : ∀ g h : Bool, pv12 true false false false true false g h = true := by decide +kernel
theorem pc12_100011 : ∀ g h : Bool, pv12 true false false false true true g h = true := by decide +kernel
theorem pc12_100100 : ∀ g h : Bool, pv12 true false false true false false g h = true := by decide +kernel
theorem pc12_100101 : ∀ g h : Bool, pv12 true false false true false true g h = true := by decide +kernel
theorem pc12_100110 : ∀ g h : Bool, pv12 true false false true true false g h = true := by decide +kernel
theorem pc12_100111 : ∀ g h : Bool, pv12 true false false true true true g h = true := by decide +kernel
theorem pc12_101000 : ∀ g h : Bool, pv12 true false true false false false g h = true := by decide +kernel
theorem pc12_101001 : ∀ g h : Bool, pv12 true false true false false true g h = true := by decide +kernel
theorem pc12_101010 : ∀ g h : Bool, pv12 true false true false true false g h = true := by decide +kernel
theorem pc12_101011 : ∀ g h : Bool, pv12 true false true false true true g h = true := by decide +kernel
theorem pc12_101100 : ∀ g h : Bool, pv12 true false true true false false g h = true := by decide +kernel
theorem pc12_101101 : ∀ g h : Bool, pv12 true false true true false true g h = true := by decide +kernel
theorem pc12_101110 : ∀ g h : Bool, pv12 true false true true true false g h = true := by decide +kernel
theorem pc12_101111 : ∀ g h : Bool, pv12 true false true true true true g h = true := by decide +kernel
theorem pc12_110000 : ∀ g h : Bool, pv12 true true false false false false g h = true := by decide +kernel
theorem pc12_110001 : ∀ g h : Bool, pv12 true true false false false true g h = true := by decide +kernel
theorem pc12_110010 : ∀ g h : Bool, pv12 true true false false true false g h = true := by decide +kernel
theorem pc12_110011 : ∀ g h : Bool, pv12 true true false false true true g h = true := by decide +kernel
theorem pc12_110100 : ∀ g h : Bool, pv12 true true false true false false g h = true := by decide +kernel
theorem pc12_110101 : ∀ g h : Bool, pv12 true true false true false true g h = true := by decide +kernel
theorem pc12_110110 : ∀ g h : Bool, pv12 true true false true true false g h = true := by decide +kernel
theorem pc12_110111 : ∀ g h : Bool, pv12 true true false true true true g h = true := by decide +kernel
theorem pc12_111000 : ∀ g h : Bool, pv12 true true true false false false g h = true := by decide +kernel
theorem pc12_111001 : ∀ g h : Bool, pv12 true true true false false true g h = true := by decide +kernel
theorem pc12_111010 : ∀ g h : Bool, pv12 true true true false true false g h = true := by decide +kernel
theorem pc12_111011 : ∀ g h : Bool, pv12 true true true false true true g h = true := by decide +kernel
theorem pc12_111100 : ∀ g h : Bool, pv12 true true true true false false g h = true := by decide +kernel
theorem pc12_111101 : ∀ g h : Bool, pv12 true true true true false true g h = true := by decide +kernel
theorem pc12_111110 : ∀ g h : Bool, pv12 true true true true true false g h = true := by decide +kernel
theorem pc12_111111 : ∀ g h : Bool, pv12 true true true true true true g h = true := by decide +kernel
theorem ph12 : ∀ a b c d e f g h : Bool, pv12 a b c d e f g h = true
  | false, false, false, false, false, false, g, h => pc12_000000 g h
  | false, false, false, false, false, true, g, h => pc12_000001 g h
  | false, false, false, false, true, false, g, h => pc12_000010 g h
  | false, false, false, false, true, true, g, h => pc12_000011 g h
  | false, false, false, true, false, false, g, h => pc12_000100 g h
  | false, false, false, true, false, true, g, h => pc12_000101 g h
  | false, false, false, true, true, false, g, h => pc12_000110 g h
  | false, false, false, true, true, true, g, h => pc12_000111 g h
  | false, false, true, false, false, false, g, h => pc12_001000 g h
  | false, false, true, false, false, true, g, h => pc12_001001 g h
  | false, false, true, false, true, false, g, h => pc12_001010 g h
  | false, false, true, false, true, true, g, h => pc12_001011 g h
  | false, false, true, true, false, false, g, h => pc12_001100 g h
  | false, false, true, true, false, true, g, h => pc12_001101 g h
  | false, false, true, true, true, false, g, h => pc12_001110 g h
  | false, false, true, true, true, true, g, h => pc12_001111 g h
  | false, true, false, false, false, false, g, h => pc12_010000 g h
  | false, true, false, false, false, true, g, h => pc12_010001 g h
  | false, true, false, false, true, false, g, h => pc12_010010 g h
  | false, true, false, false, true, true, g, h => pc12_010011 g h
  | false, true, false, true, false, false, g, h => pc12_010100 g h
  | false, true, false, true, false, true, g, h => pc12_010101 g h
  | false, true, false, true, true, false, g, h => pc12_010110 g h
  | false, true, false, true, true, true, g, h => pc12_010111 g h
  | false, true, true, false, false, false, g, h => pc12_011000 g h
  | false, true, true, false, false, true, g, h => pc12_011001 g h
  | false, true, true, false, true, false, g, h => pc12_011010 g h
  | false, true, true, false, true, true, g, h => pc12_011011 g h
  | false, true, true, true, false, false, g, h => pc12_011100 g h
  | false, true, true, true, false, true, g, h => pc12_011101 g h
  | false, true, true, true, true, false, g, h => pc12_011110 g h
  | false, true, true, true, true, true, g, h => pc12_011111 g h
  | true, false, false, false, false, false, g, h => pc12_100000 g h
  | true, false, false, false, false, true, g, h => pc12_100001 g h
  | true, false, false, false, true, false, g, h => pc12_100010 g h
  | true, false, false, false, true, true, g, h => pc12_100011 g h
  | true, false, false, true, false, false, g, h => pc12_100100 g h
  | true, false, false, true, false, true, g, h => pc12_100101 g h
  | true, false, false, true, true, false, g, h => pc12_100110 g h
  | true, false, false, true, true, true, g, h => pc12_100111 g h
  | true, false, true, false, false, false, g, h => pc12_101000 g h
  | true, false, true, false, false, true, g, h => pc12_101001 g h
  | true, false, true, false, true, false, g, h => pc12_101010 g h
  | true, false, true, false, true, true, g, h => pc12_101011 g h
  | true, false, true, true, false, false, g, h => pc12_101100 g h
  | true, false, true, true, false, true, g, h => pc12_101101 g h
  | true, false, true, true, true, false, g, h => pc12_101110 g h
  | true, false, true, true, true, true, g, h => pc12_101111 g h
  | true, true, false, false, false, false, g, h => pc12_110000 g h
  | true, true, false, false, false, true, g, h => pc12_110001 g h
  | true, true, false, false, true, false, g, h => pc12_110010 g h
  | true, true, false, false, true, true, g, h => pc12_110011 g h
  | true, true, false, true, false, false, g, h => pc12_110100 g h
  | true, true, false, true, false, true, g, h => pc12_110101 g h
  | true, true, false, true, true, false, g, h => pc12_110110 g h
  | true, true, false, true, true, true, g, h => pc12_110111 g h
  | true, true, true, false, false, false, g, h => pc12_111000 g h
  | true, true, true, false, false, true, g, h => pc12_111001 g h
  | true, true, true, false, true, false, g, h => pc12_111010 g h
  | true, true, true, false, true, true, g, h => pc12_111011 g h
  | true, true, true, true, false, false, g, h => pc12_111100 g h
  | true, true, true, true, false, true, g, h => pc12_111101 g h
  | true, true, true, true, true, false, g, h => pc12_111110 g h
  | true, true, true, true, true, true, g, h => pc12_111111 g h
theorem hM_goal : ∃ mi, sx_p9 mi = some sm_X12_goal := ⟨122, rfl⟩
/-- a unit that knows the whole world -/
theorem pMw {M : sx_M} {fr lo : Nat} {d : gx_D} {z : Nat → Nat} {σ : Nat → Int} {r0 r1 nx0 nx1 : Nat} {L0 L1 : List (Nat × sx_V)} {S0 S1 : List sx_V} {l0 l1 : List (Nat × sx_C)} (hM : ∃ mi, sx_p9 mi = some M) (hok : gx_okDI [] M fr lo d = true) (hck : pchk d [] (r0, L0, S0, l0, nx0) (r1, L1, S1, l1, nx1) = true) (hB : sx_okB σ d.1) : gx_H d.2.2.2.2.2.1 M fr lo d.2.2.2.1 d.2.2.2.2.1 z σ (r0, L0, S0, gx_mk l0, nx0) (sx_σi d.2.2.2.2.2.2.2.1 σ) (r1, L1, S1, gx_mk l1, nx1) :=
  pM (R := []) hM hok hck rfl rfl hB gs_t0 (fun _ _ h => h) (fun _ _ h => nomatch h) (fun _ _ h => .inl h)
section GC
variable {a b c d e f g h : Bool} {q1 q2 : Nat} {t : Bool} {z : Nat → Nat} {σ : Nat → Int}
theorem pg_0 (hS : 40 ≤ σ 50 ∧ σ 50 ≤ 60) : gx_G 40 sm_X12_goal 17 700 13 194 z σ (0, [(0, pI 0), (1, pC 0)], [], gx_mk pG0, 400) σ (47, pGL, [pI 40], gx_mk pA0, 400) := by
  have h9 := pc0
  rw [Bool.and_eq_true] at h9
  exact ⟨fun _ _ => rfl, pMw (d := pu0) hM_goal h9.1 h9.2 (pB1 hS pB0)⟩
theorem pg_11 : gx_G 40 sm_X12_goal 17 700 4 38 z σ (48, pGL, [], gx_mk (pA10 a b c d e f g h), 400) σ (78, [], [pC 0], gx_mk (pA11 a b c d e f g h), 400) := by
  have h9 := ph11 a b c d e f g h
  unfold pv11 at h9
  rw [Bool.and_eq_true] at h9
  exact ⟨fun _ _ => rfl, (pMw (d := pu11 a b c d e f g h) hM_goal h9.1 h9.2 pB0).mono (Nat.le_of_ble_eq_true rfl) (Nat.le_refl _) (Nat.le_refl _) (Nat.le_refl _) (Nat.le_refl _)⟩
theorem pg_12 : gx_H 0 sm_L_law 18 726 0 0 z σ (213, gl_L7, [pC 0], gx_mk (pA11 a b c d e f g h), 400) σ (bk_pt 216 gl_L7 [] (gp_IDLE a b c d e f g h gn_LB) 300) := by
  have h9 := ph12 a b c d e f g h
  unfold pv12 at h9
  rw [Bool.and_eq_true] at h9
  exact pMw (d := pu12 a b c d e f g h) hM_law h9.1 h9.2 pB0
/-- the goal's call of read -/
theorem pg_read (hq1 : q1 < 6) (hq2 : q2 < 6) (hG : pG a b c d e f g h q1 q2 t σ) : ∃ σ1 : Nat → Int, (∀ u, pfree u = true → σ1 u = σ u) ∧ σ1 28 = (pcode q1 : Int) ∧ σ1 29 = (pcode q2 : Int) ∧ σ1 8 = sx_ev σ (emost t) ∧ gx_G 60 sm_X12_goal 17 700 43 615 z σ (47, pGL, [pI 40], gx_mk pA0, 400) σ1 (48, pGL, [], gx_mk (pA10 a b c d e f g h), 400) := by
  obtain ⟨σ1, h1, h2, h3, h4, h5⟩ := p_read (z := z) hq1 hq2 hG
  refine ⟨σ1, h1, h2, h3, h4, ?_⟩
  obtain ⟨fs, hf⟩ : ∃ fs, sx_lk pA0 40 = some (.inl (9, fs)) := ⟨_, rfl⟩
  have hl : sx_look 12 (gx_mk pA0) 40 = some (.inl (9, fs)) := by rw [gx_mk_look (by decide)]; exact hf
  exact gx_G.call (fr := 17) (lo := 700) (S' := []) (rv := []) (r := 47) (L := pGL) (S := [pI 40]) (M := sm_X12_goal) (M' := sm_X7_read) (mi := 122) (mj := 25) (x := (88, .invokevirtual 61, 3, [0, 25, 0, 9, 484, 485, 486, 36, 487, 0], .ofNat 0)) rfl rfl rfl (by decide +kernel) (gn_prep_v (M' := sm_X7_read) (mj := 25) (n := 0) (ci := 9) (a := 40) (S := []) rfl rfl rfl rfl hl) (by decide) (Nat.le_of_ble_eq_true rfl) (by decide) (Nat.le_of_ble_eq_true rfl) (Nat.le_of_ble_eq_true rfl) (by decide) h5 ((gn_retw _ (gx_mk [])).trans (gn_reto (by decide +kernel))) rfl rfl
/-- THE GOAL'S CALL, UP TO WHERE THE LAW COUNTS -/
theorem pg_law (hq1 : q1 < 6) (hq2 : q2 < 6) (hG : pG a b c d e f g h q1 q2 t σ) (hS : 40 ≤ σ 50 ∧ σ 50 ≤ 60) : ∃ σ1 : Nat → Int, (∀ u, pfree u = true → σ1 u = σ u) ∧ σ1 28 = (pcode q1 : Int) ∧ σ1 29 = (pcode q2 : Int) ∧ σ1 8 = sx_ev σ (emost t) ∧ gx_H 0 sm_L_law 18 726 60 847 z σ (212, gl_L7, [pC 0, pI 0], gx_mk pG0, 400) σ1 (bk_pt 216 gl_L7 [] (gp_IDLE a b c d e f g h gn_LB) 300) := by
  obtain ⟨σ1, h1, h2, h3, h4, h5⟩ := pg_read (z := z) hq1 hq2 hG
  refine ⟨σ1, h1, h2, h3, h4, ?_⟩
  have g1 := gx_G.tr (Nat.le_refl 40) (Nat.le_refl 40) (gx_G.tr (Nat.le_refl 40) (Nat.le_refl 40) (pg_0 (z := z) hS) ⟨h5.1, h5.2.mono (by decide : 40 ≤ 60) (Nat.le_refl _) (Nat.le_refl _) (Nat.le_refl _) (Nat.le_refl _)⟩) (pg_11 (z := z) (σ := σ1))
  obtain ⟨fs, hf⟩ : ∃ fs, sx_lk pG0 0 = some (.inl (14, fs)) := ⟨_, rfl⟩
  have hl : sx_look 12 (gx_mk pG0) 0 = some (.inl (14, fs)) := by rw [gx_mk_look (by decide)]; exact hf
  have g2 := gx_G.call (S' := []) (rv := [pC 0]) (M := sm_L_law) (M' := sm_X12_goal) (mi := 59) (mj := 122) (x := (391, .invokevirtual 89, 3, [0, 122, 1, 14, 3075, 3076, 3077, 2, 3078, 0], .ofNat 0)) (r := 212) (L := gl_L7) (S := [pC 0, pI 0]) rfl rfl rfl (by decide +kernel) (gn_prep_v (M' := sm_X12_goal) (mj := 122) (n := 1) (ci := 14) (a := 0) (S := []) rfl rfl rfl rfl hl) (fr := 18) (lo := 726) (by decide) (Nat.le_of_ble_eq_true rfl) (by decide) (Nat.le_of_ble_eq_true rfl) (Nat.le_of_ble_eq_true rfl) (by decide) g1 ((gn_retw _ (gx_mk [])).trans (gn_reto (by decide +kernel))) rfl rfl
  exact (gx_H.tr (Nat.zero_le 40) (Nat.le_refl 0) g2.2 (pg_12 (z := z) (σ := σ1))).mono (Nat.le_refl _) (Nat.le_refl _) (Nat.le_refl _) (Nat.le_of_ble_eq_true rfl) (Nat.le_of_ble_eq_true rfl)
end GC
