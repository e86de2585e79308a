/-! worlds in which the law's rows go on; the law's rows by what they mean -/
theorem okl_0 : bk_low (kb_IDLE_0) = true := by decide +kernel
theorem okl_1 : ∀ a b c : Bool, bk_low (g1a a b c) = true := by decide +kernel
theorem okl_2 : ∀ d e f : Bool, bk_low (g2a d e f) = true := by decide +kernel
theorem okl_3 : ∀ g h : Bool, bk_low (g3a g h) = true := by decide +kernel
theorem okl_4 : ∀ d : Bool, bk_low (gD0 d) = true := by decide +kernel
theorem okl_5 : ∀ e : Bool, bk_low (gE0 e) = true := by decide +kernel
theorem okl_6 : ∀ f : Bool, bk_low (gF0 f) = true := by decide +kernel
theorem okl_7 : ∀ g : Bool, bk_low (gG0 g) = true := by decide +kernel
theorem okl_8 : ∀ h : Bool, bk_low (gH0 h) = true := by decide +kernel
theorem gw_IDLE (a b c d e f g h : Bool) : gw (gp_IDLE a b c d e f g h gn_LB) := by
  refine ⟨gpo_IDLE a b c d e f g h gn_lb, rfl, fun j hj => ?_⟩
  have hj : j = 0 ∨ j = 1 ∨ j = 2 ∨ j = 3 ∨ j = 4 ∨ j = 5 ∨ j = 6 ∨ j = 7 ∨ j = 8 ∨ j = 9 ∨ j = 10 ∨ j = 11 ∨ j = 12 ∨ j = 13 := by omega
  rcases hj with rfl | rfl | rfl | rfl | rfl | rfl | rfl | rfl | rfl | rfl | rfl | rfl | rfl | rfl
  · exact okl_0
  · exact (okl_1 a b c)
  · exact (okl_2 d e f)
  · exact (okl_3 g h)
  · exact (okl_4 d)
  · exact (okl_5 e)
  · exact (okl_6 f)
  · exact (okl_7 g)
  · exact (okl_8 h)
  · exact rfl
  · exact rfl
  · exact rfl
  · exact rfl
  · exact rfl
theorem okl_9 : ∀ g h j r : Bool, bk_low (kb_OPEN_0 g h j r) = true := by decide +kernel
theorem okl_10 : ∀ a b c : Bool, bk_low (g1b a b c) = true := by decide +kernel
theorem okl_11 : ∀ d e f : Bool, bk_low (g2b d e f) = true := by decide +kernel
theorem okl_12 : ∀ g h j : Bool, bk_low (cond j (g3c g h) (g3b g h)) = true := by decide +kernel
theorem okl_13 : ∀ d y : Bool, bk_low (gD1 d y) = true := by decide +kernel
theorem okl_14 : ∀ e : Bool, bk_low (gE1 e) = true := by decide +kernel
theorem okl_15 : ∀ f : Bool, bk_low (gF1 f) = true := by decide +kernel
theorem okl_16 : ∀ g j : Bool, bk_low (cond j (gG0 g) (gG1 g)) = true := by decide +kernel
theorem okl_17 : ∀ h j : Bool, bk_low (cond j (gH1 h) (gH0 h)) = true := by decide +kernel
theorem okl_18 : ∀ d v y : Bool, bk_low (kb_QG_9 d v y) = true := by decide +kernel
theorem okl_19 : ∀ d e f y : Bool, bk_low (kb_QC_10 d e f y) = true := by decide +kernel
theorem okl_20 : ∀ y : Bool, bk_low (gY y) = true := by decide +kernel
theorem okl_21 : ∀ v : Bool, bk_low (gV v) = true := by decide +kernel
theorem okl_22 : ∀ r : Bool, bk_low (gW r) = true := by decide +kernel
theorem gw_OPEN (a b c d e f g h y v j r : Bool) : gw (gp_OPEN a b c d e f g h y v j r gn_LB) := by
  refine ⟨gpo_OPEN a b c d e f g h y v j r gn_lb, rfl, fun j hj => ?_⟩
  have hj : j = 0 ∨ j = 1 ∨ j = 2 ∨ j = 3 ∨ j = 4 ∨ j = 5 ∨ j = 6 ∨ j = 7 ∨ j = 8 ∨ j = 9 ∨ j = 10 ∨ j = 11 ∨ j = 12 ∨ j = 13 := by omega
  rcases hj with rfl | rfl | rfl | rfl | rfl | rfl | rfl | rfl | rfl | rfl | rfl | rfl | rfl | rfl
  · exact (okl_9 g h j r)
  · exact (okl_10 a b c)
  · exact (okl_11 d e f)
  · exact (okl_12 g h j)
  · exact (okl_13 d y)
  · exact (okl_14 e)
  · exact (okl_15 f)
  · exact (okl_16 g j)
  · exact (okl_17 h j)
  · exact (okl_18 d v y)
  · exact (okl_19 d e f y)
  · exact (okl_20 y)
  · exact (okl_21 v)
  · exact (okl_22 r)
theorem okl_23 : bk_low (kb_END_0) = true := by decide +kernel
theorem gw_END (a b c d e f g h : Bool) : gw (gp_END a b c d e f g h gn_LB) := by
  refine ⟨gpo_END a b c d e f g h gn_lb, rfl, fun j hj => ?_⟩
  have hj : j = 0 ∨ j = 1 ∨ j = 2 ∨ j = 3 ∨ j = 4 ∨ j = 5 ∨ j = 6 ∨ j = 7 ∨ j = 8 ∨ j = 9 ∨ j = 10 ∨ j = 11 ∨ j = 12 ∨ j = 13 := by omega
  rcases hj with rfl | rfl | rfl | rfl | rfl | rfl | rfl | rfl | rfl | rfl | rfl | rfl | rfl | rfl
  · exact okl_23
  · exact rfl
  · exact rfl
  · exact rfl
  · exact rfl
  · exact rfl
  · exact rfl
  · exact rfl
  · exact rfl
  · exact rfl
  · exact rfl
  · exact rfl
  · exact rfl
  · exact rfl
/-- the law's numbers -/
def gl_p (q : gs_P) (σ : Nat → Int) : Prop := σ 1020 = q.a ∧ σ 1021 = q.b ∧ σ 1022 = q.d ∧ σ 1023 = q.e ∧ σ 1024 = q.g ∧ σ 1025 = q.h ∧ σ 1033 = q.y ∧ σ 1034 = q.t ∧ σ 1035 = (q.A : Int) ∧ σ 1036 = (q.B : Int) ∧ σ 1037 = q.m
theorem gl_p_of {q : gs_P} {Θ : List (Nat × sx_I)} {σ : Nat → Int} (h : ([1020, 1021, 1022, 1023, 1024, 1025, 1033, 1034, 1035, 1036, 1037] : List Nat).all (fun u => (sx_lk Θ u).isNone) = true) (hp : gl_p q σ) : gl_p q (sx_σi Θ σ) := by
  have k : ∀ u ∈ ([1020, 1021, 1022, 1023, 1024, 1025, 1033, 1034, 1035, 1036, 1037] : List Nat), sx_σi Θ σ u = σ u := fun u hu => gs_none (List.all_eq_true.mp h u hu)
  unfold gl_p
  rw [k 1020 (by decide), k 1021 (by decide), k 1022 (by decide), k 1023 (by decide), k 1024 (by decide), k 1025 (by decide), k 1033 (by decide), k 1034 (by decide), k 1035 (by decide), k 1036 (by decide), k 1037 (by decide)]
  exact hp
theorem gl_hi {Θ : List (Nat × sx_I)} {σ : Nat → Int} (h : Θ.all (fun q => Nat.ble 1000 q.1) = true) : ∀ u, u < 1000 → sx_σi Θ σ u = σ u := fun u hu => gs_none (by
  cases e : sx_lk Θ u with
  | none => rfl
  | some v =>
    have := Nat.le_of_ble_eq_true (List.all_eq_true.mp h _ (sx_lk_in e))
    simp only at this
    omega)
def gl_L7 : List (Nat × sx_V) := [(1, .inr (.inr (some (.inl 0)))), (2, .inr (.inr (some (.inl 30)))), (3, .inl (.inl (.ofNat 0, [(1033, .ofNat 1)]))), (4, .inl (.inl (.ofNat 0, [(1034, .ofNat 1)]))), (5, .inl (.inl (.ofNat 0, [(1035, .ofNat 1)]))), (6, .inl (.inl (.ofNat 0, [(1036, .ofNat 1)]))), (7, .inl (.inl (.ofNat 0, [(1037, .ofNat 1)])))]
def gl_L9 : List (Nat × sx_V) := [(1, .inr (.inr (some (.inl 0)))), (2, .inr (.inr (some (.inl 30)))), (3, .inl (.inl (.ofNat 0, [(1033, .ofNat 1)]))), (4, .inl (.inl (.ofNat 0, [(1034, .ofNat 1)]))), (5, .inl (.inl (.ofNat 0, [(1035, .ofNat 1)]))), (6, .inl (.inl (.ofNat 0, [(1036, .ofNat 1)]))), (7, .inl (.inl (.ofNat 0, [(1037, .ofNat 1)]))), (8, .inl (.inl (.ofNat 0, [(1038, .ofNat 1)]))), (9, .inl (.inl (.ofNat 0, [(1039, .ofNat 1)])))]
def gl_L10 : List (Nat × sx_V) := [(1, .inr (.inr (some (.inl 0)))), (2, .inr (.inr (some (.inl 30)))), (3, .inl (.inl (.ofNat 0, [(1033, .ofNat 1)]))), (4, .inl (.inl (.ofNat 0, [(1034, .ofNat 1)]))), (5, .inl (.inl (.ofNat 0, [(1035, .ofNat 1)]))), (6, .inl (.inl (.ofNat 0, [(1036, .ofNat 1)]))), (7, .inl (.inl (.ofNat 0, [(1037, .ofNat 1)]))), (8, .inl (.inl (.ofNat 0, [(1038, .ofNat 1)]))), (9, .inl (.inl (.ofNat 0, [(1039, .ofNat 1)]))), (10, .inl (.inl (.ofNat 0, [(1040, .ofNat 1)])))]
def gl_L11 (k : Nat) : List (Nat × sx_V) := [(1, .inr (.inr (some (.inl 0)))), (2, .inr (.inr (some (.inl 30)))), (3, .inl (.inl (.ofNat 0, [(1033, .ofNat 1)]))), (4, .inl (.inl (.ofNat 0, [(1034, .ofNat 1)]))), (5, .inl (.inl (.ofNat 0, [(1035, .ofNat 1)]))), (6, .inl (.inl (.ofNat 0, [(1036, .ofNat 1)]))), (7, .inl (.inl (.ofNat 0, [(1037, .ofNat 1)]))), (8, .inl (.inl (.ofNat 0, [(1038, .ofNat 1)]))), (9, .inl (.inl (.ofNat 0, [(1039, .ofNat 1)]))), (10, .inl (.inl (.ofNat 0, [(1040, .ofNat 1)]))), (11, .inr (.inl (.ofNat 0, [(1041, .ofNat 1)]))), (13, .inl (.inl (.ofNat k, [])))]
def gl_L14 (k : Nat) : List (Nat × sx_V) := [(1, .inr (.inr (some (.inl 0)))), (2, .inr (.inr (some (.inl 30)))), (3, .inl (.inl (.ofNat 0, [(1033, .ofNat 1)]))), (4, .inl (.inl (.ofNat 0, [(1034, .ofNat 1)]))), (5, .inl (.inl (.ofNat 0, [(1035, .ofNat 1)]))), (6, .inl (.inl (.ofNat 0, [(1036, .ofNat 1)]))), (7, .inl (.inl (.ofNat 0, [(1037, .ofNat 1)]))), (8, .inl (.inl (.ofNat 0, [(1038, .ofNat 1)]))), (9, .inl (.inl (.ofNat 0, [(1039, .ofNat 1)]))), (10, .inl (.inl (.ofNat 0, [(1040, .ofNat 1)]))), (11, .inr (.inl (.ofNat 0, [(1041, .ofNat 1)]))), (13, .inl (.inl (.ofNat k, []))), (14, .inr (.inl (.ofNat 0, [(1042, .ofNat 1)])))]
theorem gl_a {q : gs_P} {B : Nat → List (Nat × sx_C)} {z : Nat → Nat} {σ : Nat → Int} (hB : gw B) (hq : gs_ok q) (hp : gl_p q σ) : ∃ σ' : Nat → Int, gl_p q σ' ∧ (∀ u, u < 1000 → σ' u = σ u) ∧ σ' 1038 = 0 ∧ σ' 1039 = q.a ∧ gx_H 40 sm_L_law 18 726 0 0 z σ (bk_pt 216 gl_L7 [] B 300) σ' (bk_pt 222 gl_L9 [] B 300) := by
  have hp0 := hp
  obtain ⟨p1, p2, p3, p4, p5, p6, p7, p8, p9, p10, p11⟩ := hp
  obtain ⟨⟨q1, q2, q3, q4, q5, q6, q7, q8, q9, q10, q11, q12⟩, ⟨q13, q14, q15⟩, ⟨q16, q17, q18⟩, ⟨q19, q20⟩, q21, q22⟩ := hq
  exact ⟨sx_σi [(1038, (.ofNat 0, [])), (1039, (.ofNat 0, [(1020, .ofNat 1)]))] σ, gl_p_of rfl hp0, gl_hi rfl, (gs_some rfl).trans (by (simp only [sx_ev, sx_evl, gs_ofNat, gs_neg] ; omega)), (gs_some rfl).trans (by (simp only [sx_ev, sx_evl, gs_ofNat, gs_neg] ; omega)), tl_l_a hB (by (repeat' (first | exact bk_F0 | (refine bk_F1 ?_ ?_))) <;> (simp only [sx_ev, sx_evl, gs_ofNat, gs_neg] ; omega)) (by (repeat' (first | exact gs_t0 | (refine gs_t1 ?_ ?_))) <;> (simp only [sx_ev, sx_evl, gs_ofNat, gs_neg] ; omega))⟩
theorem gl_x {q : gs_P} {B : Nat → List (Nat × sx_C)} {z : Nat → Nat} {σ : Nat → Int} (hB : gw B) (hq : gs_ok q) (hp : gl_p q σ) (hr : -12 ≤ σ 1039 ∧ σ 1039 ≤ 12) (hon : gs_on (σ 1039) q.b q.y) : ∃ σ' : Nat → Int, gl_p q σ' ∧ (∀ u, u < 1000 → σ' u = σ u) ∧ σ' 1038 = σ 1038 ∧ σ' 1039 = σ 1039 ∧ gx_H 40 sm_L_law 18 726 0 0 z σ (bk_pt 222 gl_L9 [] B 300) σ' (bk_pt 229 gl_L9 [] B 300) := by
  have hp0 := hp
  obtain ⟨p1, p2, p3, p4, p5, p6, p7, p8, p9, p10, p11⟩ := hp
  obtain ⟨⟨q1, q2, q3, q4, q5, q6, q7, q8, q9, q10, q11, q12⟩, ⟨q13, q14, q15⟩, ⟨q16, q17, q18⟩, ⟨q19, q20⟩, q21, q22⟩ := hq
  obtain ⟨r1, r2⟩ := hr
  have h9 := hon
  unfold gs_on at h9
  rcases Int.lt_or_gt_of_ne q15 with hs | hs
  · exact ⟨sx_σi [] σ, gl_p_of rfl hp0, gl_hi rfl, gs_none rfl, gs_none rfl, tl_l_x11 hB (by (repeat' (first | exact bk_F0 | (refine bk_F1 ?_ ?_))) <;> (simp only [sx_ev, sx_evl, gs_ofNat, gs_neg] ; omega)) (by (repeat' (first | exact gs_t0 | (refine gs_t1 ?_ ?_))) <;> (simp only [sx_ev, sx_evl, gs_ofNat, gs_neg] ; omega))⟩
  · exact ⟨sx_σi [] σ, gl_p_of rfl hp0, gl_hi rfl, gs_none rfl, gs_none rfl, tl_l_x01 hB (by (repeat' (first | exact bk_F0 | (refine bk_F1 ?_ ?_))) <;> (simp only [sx_ev, sx_evl, gs_ofNat, gs_neg] ; omega)) (by (repeat' (first | exact gs_t0 | (refine gs_t1 ?_ ?_))) <;> (simp only [sx_ev, sx_evl, gs_ofNat, gs_neg] ; omega))⟩
theorem gl_xx {q : gs_P} {B : Nat → List (Nat × sx_C)} {z : Nat → Nat} {σ : Nat → Int} (hB : gw B) (hq : gs_ok q) (hp : gl_p q σ) (hr : -12 ≤ σ 1039 ∧ σ 1039 ≤ 12) (hon : ¬ gs_on (σ 1039) q.b q.y) : ∃ σ' : Nat → Int, gl_p q σ' ∧ (∀ u, u < 1000 → σ' u = σ u) ∧ σ' 1038 = σ 1038 ∧ σ' 1039 = σ 1039 ∧ gx_H 40 sm_L_law 18 726 0 0 z σ (bk_pt 222 gl_L9 [] B 300) σ' (bk_pt 299 gl_L9 [] B 300) := by
  have hp0 := hp
  obtain ⟨p1, p2, p3, p4, p5, p6, p7, p8, p9, p10, p11⟩ := hp
  obtain ⟨⟨q1, q2, q3, q4, q5, q6, q7, q8, q9, q10, q11, q12⟩, ⟨q13, q14, q15⟩, ⟨q16, q17, q18⟩, ⟨q19, q20⟩, q21, q22⟩ := hq
  obtain ⟨r1, r2⟩ := hr
  have h9 := hon
  unfold gs_on at h9
  rcases Int.lt_or_gt_of_ne q15 with hs | hs
  · exact ⟨sx_σi [] σ, gl_p_of rfl hp0, gl_hi rfl, gs_none rfl, gs_none rfl, tl_l_x10 hB (by (repeat' (first | exact bk_F0 | (refine bk_F1 ?_ ?_))) <;> (simp only [sx_ev, sx_evl, gs_ofNat, gs_neg] ; omega)) (by (repeat' (first | exact gs_t0 | (refine gs_t1 ?_ ?_))) <;> (simp only [sx_ev, sx_evl, gs_ofNat, gs_neg] ; omega))⟩
  · exact ⟨sx_σi [] σ, gl_p_of rfl hp0, gl_hi rfl, gs_none rfl, gs_none rfl, tl_l_x00 hB (by (repeat' (first | exact bk_F0 | (refine bk_F1 ?_ ?_))) <;> (simp only [sx_ev, sx_evl, gs_ofNat, gs_neg] ; omega)) (by (repeat' (first | exact gs_t0 | (refine gs_t1 ?_ ?_))) <;> (simp only [sx_ev, sx_evl, gs_ofNat, gs_neg] ; omega))⟩
theorem gl_y {q : gs_P} {B : Nat → List (Nat × sx_C)} {z : Nat → Nat} {σ : Nat → Int} (hB : gw B) (hq : gs_ok q) (hp : gl_p q σ) (hr : -12 ≤ σ 1040 ∧ σ 1040 ≤ 12) (hon : gs_on (σ 1040) q.e q.t) : ∃ σ' : Nat → Int, gl_p q σ' ∧ (∀ u, u < 1000 → σ' u = σ u) ∧ σ' 1038 = σ 1038 ∧ σ' 1039 = σ 1039 ∧ σ' 1040 = σ 1040 ∧ gx_H 40 sm_L_law 18 726 0 0 z σ (bk_pt 233 gl_L10 [] B 300) σ' (bk_pt 240 gl_L10 [] B 300) := by
  have hp0 := hp
  obtain ⟨p1, p2, p3, p4, p5, p6, p7, p8, p9, p10, p11⟩ := hp
  obtain ⟨⟨q1, q2, q3, q4, q5, q6, q7, q8, q9, q10, q11, q12⟩, ⟨q13, q14, q15⟩, ⟨q16, q17, q18⟩, ⟨q19, q20⟩, q21, q22⟩ := hq
  obtain ⟨r1, r2⟩ := hr
  have h9 := hon
  unfold gs_on at h9
  rcases Int.lt_or_gt_of_ne q18 with hs | hs
  · exact ⟨sx_σi [] σ, gl_p_of rfl hp0, gl_hi rfl, gs_none rfl, gs_none rfl, gs_none rfl, tl_l_y11 hB (by (repeat' (first | exact bk_F0 | (refine bk_F1 ?_ ?_))) <;> (simp only [sx_ev, sx_evl, gs_ofNat, gs_neg] ; omega)) (by (repeat' (first | exact gs_t0 | (refine gs_t1 ?_ ?_))) <;> (simp only [sx_ev, sx_evl, gs_ofNat, gs_neg] ; omega))⟩
  · exact ⟨sx_σi [] σ, gl_p_of rfl hp0, gl_hi rfl, gs_none rfl, gs_none rfl, gs_none rfl, tl_l_y01 hB (by (repeat' (first | exact bk_F0 | (refine bk_F1 ?_ ?_))) <;> (simp only [sx_ev, sx_evl, gs_ofNat, gs_neg] ; omega)) (by (repeat' (first | exact gs_t0 | (refine gs_t1 ?_ ?_))) <;> (simp only [sx_ev, sx_evl, gs_ofNat, gs_neg] ; omega))⟩
theorem gl_yx {q : gs_P} {B : Nat → List (Nat × sx_C)} {z : Nat → Nat} {σ : Nat → Int} (hB : gw B) (hq : gs_ok q) (hp : gl_p q σ) (hr : -12 ≤ σ 1040 ∧ σ 1040 ≤ 12) (hon : ¬ gs_on (σ 1040) q.e q.t) : ∃ σ' : Nat → Int, gl_p q σ' ∧ (∀ u, u < 1000 → σ' u = σ u) ∧ σ' 1038 = σ 1038 ∧ σ' 1039 = σ 1039 ∧ σ' 1040 = σ 1040 ∧ gx_H 40 sm_L_law 18 726 0 0 z σ (bk_pt 233 gl_L10 [] B 300) σ' (bk_pt 294 gl_L10 [] B 300) := by
  have hp0 := hp
  obtain ⟨p1, p2, p3, p4, p5, p6, p7, p8, p9, p10, p11⟩ := hp
  obtain ⟨⟨q1, q2, q3, q4, q5, q6, q7, q8, q9, q10, q11, q12⟩, ⟨q13, q14, q15⟩, ⟨q16, q17, q18⟩, ⟨q19, q20⟩, q21, q22⟩ := hq
  obtain ⟨r1, r2⟩ := hr
  have h9 := hon
  unfold gs_on at h9
  rcases Int.lt_or_gt_of_ne q18 with hs | hs
  · exact ⟨sx_σi [] σ, gl_p_of rfl hp0, gl_hi rfl, gs_none rfl, gs_none rfl, gs_none rfl, tl_l_y10 hB (by (repeat' (first | exact bk_F0 | (refine bk_F1 ?_ ?_))) <;> (simp only [sx_ev, sx_evl, gs_ofNat, gs_neg] ; omega)) (by (repeat' (first | exact gs_t0 | (refine gs_t1 ?_ ?_))) <;> (simp only [sx_ev, sx_evl, gs_ofNat, gs_neg] ; omega))⟩
  · exact ⟨sx_σi [] σ, gl_p_of rfl hp0, gl_hi rfl, gs_none rfl, gs_none rfl, gs_none rfl, tl_l_y00 hB (by (repeat' (first | exact bk_F0 | (refine bk_F1 ?_ ?_))) <;> (simp only [sx_ev, sx_evl, gs_ofNat, gs_neg] ; omega)) (by (repeat' (first | exact gs_t0 | (refine gs_t1 ?_ ?_))) <;> (simp only [sx_ev, sx_evl, gs_ofNat, gs_neg] ; omega))⟩
theorem gl_y0 {q : gs_P} {B : Nat → List (Nat × sx_C)} {z : Nat → Nat} {σ : Nat → Int} (hB : gw B) (hq : gs_ok q) (hp : gl_p q σ) : ∃ σ' : Nat → Int, gl_p q σ' ∧ (∀ u, u < 1000 → σ' u = σ u) ∧ σ' 1038 = σ 1038 ∧ σ' 1039 = σ 1039 ∧ σ' 1040 = q.d ∧ gx_H 40 sm_L_law 18 726 0 0 z σ (bk_pt 229 gl_L9 [] B 300) σ' (bk_pt 233 gl_L10 [] B 300) := by
  have hp0 := hp
  obtain ⟨p1, p2, p3, p4, p5, p6, p7, p8, p9, p10, p11⟩ := hp
  obtain ⟨⟨q1, q2, q3, q4, q5, q6, q7, q8, q9, q10, q11, q12⟩, ⟨q13, q14, q15⟩, ⟨q16, q17, q18⟩, ⟨q19, q20⟩, q21, q22⟩ := hq
  exact ⟨sx_σi [(1040, (.ofNat 0, [(1022, .ofNat 1)]))] σ, gl_p_of rfl hp0, gl_hi rfl, gs_none rfl, gs_none rfl, (gs_some rfl).trans (by (simp only [sx_ev, sx_evl, gs_ofNat, gs_neg] ; omega)), tl_l_y hB (by (repeat' (first | exact bk_F0 | (refine bk_F1 ?_ ?_))) <;> (simp only [sx_ev, sx_evl, gs_ofNat, gs_neg] ; omega)) (by (repeat' (first | exact gs_t0 | (refine gs_t1 ?_ ?_))) <;> (simp only [sx_ev, sx_evl, gs_ofNat, gs_neg] ; omega))⟩
theorem gl_v {q : gs_P} {B : Nat → List (Nat × sx_C)} {z : Nat → Nat} {σ : Nat → Int} (hB : gw B) (hq : gs_ok q) (hp : gl_p q σ) {v0 : Int} (hx : -6 ≤ σ 1039 ∧ σ 1039 ≤ 6) (hy : -6 ≤ σ 1040 ∧ σ 1040 ≤ 6) (hv : gs_act q.A (σ 1039) (σ 1040) = some v0) : ∃ σ' : Nat → Int, gl_p q σ' ∧ (∀ u, u < 1000 → σ' u = σ u) ∧ σ' 1038 = σ 1038 ∧ σ' 1039 = σ 1039 ∧ σ' 1040 = σ 1040 ∧ σ' 1041 = v0 ∧ gx_H 40 sm_L_law 18 726 0 0 z σ (bk_pt 240 gl_L10 [] B 300) σ' (bk_pt 249 (gl_L11 0) [] B 300) := by
  have hp0 := hp
  obtain ⟨p1, p2, p3, p4, p5, p6, p7, p8, p9, p10, p11⟩ := hp
  obtain ⟨⟨q1, q2, q3, q4, q5, q6, q7, q8, q9, q10, q11, q12⟩, ⟨q13, q14, q15⟩, ⟨q16, q17, q18⟩, ⟨q19, q20⟩, q21, q22⟩ := hq
  obtain ⟨x1, x2⟩ := hx
  obtain ⟨y1, y2⟩ := hy
  have hA : q.A = 0 ∨ q.A = 1 ∨ q.A = 2 ∨ q.A = 3 ∨ q.A = 4 ∨ q.A = 5 := by omega
  rcases hA with hA | hA | hA | hA | hA | hA <;> rw [hA] at p9 hv <;> simp only [gs_act] at hv
  · have hv := Option.some.inj hv
    exact ⟨sx_σi [(1041, (.ofNat 0, [(1039, .ofNat 1), (1040, .ofNat 1)]))] σ, gl_p_of rfl hp0, gl_hi rfl, gs_none rfl, gs_none rfl, gs_none rfl, (gs_some rfl).trans (by (simp only [sx_ev, sx_evl, gs_ofNat, gs_neg] ; omega)), tl_l_v0 hB (by (repeat' (first | exact bk_F0 | (refine bk_F1 ?_ ?_))) <;> (simp only [sx_ev, sx_evl, gs_ofNat, gs_neg] ; omega)) (by (repeat' (first | exact gs_t0 | (refine gs_t1 ?_ ?_))) <;> (simp only [sx_ev, sx_evl, gs_ofNat, gs_neg] ; omega))⟩
  · have hv := Option.some.inj hv
    exact ⟨sx_σi [(1041, (.ofNat 0, [(1039, .ofNat 1), (1040, .negSucc 0)]))] σ, gl_p_of rfl hp0, gl_hi rfl, gs_none rfl, gs_none rfl, gs_none rfl, (gs_some rfl).trans (by (simp only [sx_ev, sx_evl, gs_ofNat, gs_neg] ; omega)), tl_l_v1 hB (by (repeat' (first | exact bk_F0 | (refine bk_F1 ?_ ?_))) <;> (simp only [sx_ev, sx_evl, gs_ofNat, gs_neg] ; omega)) (by (repeat' (first | exact gs_t0 | (refine gs_t1 ?_ ?_))) <;> (simp only [sx_ev, sx_evl, gs_ofNat, gs_neg] ; omega))⟩
  · have hv := Option.some.inj hv
    have hk : σ 1040 = -6 ∨ σ 1040 = -5 ∨ σ 1040 = -4 ∨ σ 1040 = -3 ∨ σ 1040 = -2 ∨ σ 1040 = -1 ∨ σ 1040 = 0 ∨ σ 1040 = 1 ∨ σ 1040 = 2 ∨ σ 1040 = 3 ∨ σ 1040 = 4 ∨ σ 1040 = 5 ∨ σ 1040 = 6 := by omega
    rcases hk with hk | hk | hk | hk | hk | hk | hk | hk | hk | hk | hk | hk | hk <;> rw [hk] at hv
    · exact ⟨sx_σi [(1041, (.ofNat 0, [(1039, .negSucc 5)]))] σ, gl_p_of rfl hp0, gl_hi rfl, gs_none rfl, gs_none rfl, gs_none rfl, (gs_some rfl).trans (by (simp only [sx_ev, sx_evl, gs_ofNat, gs_neg] ; omega)), tl_l_v2_n6 hB (by (repeat' (first | exact bk_F0 | (refine bk_F1 ?_ ?_))) <;> (simp only [sx_ev, sx_evl, gs_ofNat, gs_neg] ; omega)) (by (repeat' (first | exact gs_t0 | (refine gs_t1 ?_ ?_))) <;> (simp only [sx_ev, sx_evl, gs_ofNat, gs_neg] ; omega))⟩
    · exact ⟨sx_σi [(1041, (.ofNat 0, [(1039, .negSucc 4)]))] σ, gl_p_of rfl hp0, gl_hi rfl, gs_none rfl, gs_none rfl, gs_none rfl, (gs_some rfl).trans (by (simp only [sx_ev, sx_evl, gs_ofNat, gs_neg] ; omega)), tl_l_v2_n5 hB (by (repeat' (first | exact bk_F0 | (refine bk_F1 ?_ ?_))) <;> (simp only [sx_ev, sx_evl, gs_ofNat, gs_neg] ; omega)) (by (repeat' (first | exact gs_t0 | (refine gs_t1 ?_ ?_))) <;> (simp only [sx_ev, sx_evl, gs_ofNat, gs_neg] ; omega))⟩
    · exact ⟨sx_σi [(1041, (.ofNat 0, [(1039, .negSucc 3)]))] σ, gl_p_of rfl hp0, gl_hi rfl, gs_none rfl, gs_none rfl, gs_none rfl, (gs_some rfl).trans (by (simp only [sx_ev, sx_evl, gs_ofNat, gs_neg] ; omega)), tl_l_v2_n4 hB (by (repeat' (first | exact bk_F0 | (refine bk_F1 ?_ ?_))) <;> (simp only [sx_ev, sx_evl, gs_ofNat, gs_neg] ; omega)) (by (repeat' (first | exact gs_t0 | (refine gs_t1 ?_ ?_))) <;> (simp only [sx_ev, sx_evl, gs_ofNat, gs_neg] ; omega))⟩
    · exact ⟨sx_σi [(1041, (.ofNat 0, [(1039, .negSucc 2)]))] σ, gl_p_of rfl hp0, gl_hi rfl, gs_none rfl, gs_none rfl, gs_none rfl, (gs_some rfl).trans (by (simp only [sx_ev, sx_evl, gs_ofNat, gs_neg] ; omega)), tl_l_v2_n3 hB (by (repeat' (first | exact bk_F0 | (refine bk_F1 ?_ ?_))) <;> (simp only [sx_ev, sx_evl, gs_ofNat, gs_neg] ; omega)) (by (repeat' (first | exact gs_t0 | (refine gs_t1 ?_ ?_))) <;> (simp only [sx_ev, sx_evl, gs_ofNat, gs_neg] ; omega))⟩
    · exact ⟨sx_σi [(1041, (.ofNat 0, [(1039, .negSucc 1)]))] σ, gl_p_of rfl hp0, gl_hi rfl, gs_none rfl, gs_none rfl, gs_none rfl, (gs_some rfl).trans (by (simp only [sx_ev, sx_evl, gs_ofNat, gs_neg] ; omega)), tl_l_v2_n2 hB (by (repeat' (first | exact bk_F0 | (refine bk_F1 ?_ ?_))) <;> (simp only [sx_ev, sx_evl, gs_ofNat, gs_neg] ; omega)) (by (repeat' (first | exact gs_t0 | (refine gs_t1 ?_ ?_))) <;> (simp only [sx_ev, sx_evl, gs_ofNat, gs_neg] ; omega))⟩
    · exact ⟨sx_σi [(1041, (.ofNat 0, [(1039, .negSucc 0)]))] σ, gl_p_of rfl hp0, gl_hi rfl, gs_none rfl, gs_none rfl, gs_none rfl, (gs_some rfl).trans (by (simp only [sx_ev, sx_evl, gs_ofNat, gs_neg] ; omega)), tl_l_v2_n1 hB (by (repeat' (first | exact bk_F0 | (refine bk_F1 ?_ ?_))) <;> (simp only [sx_ev, sx_evl, gs_ofNat, gs_neg] ; omega)) (by (repeat' (first | exact gs_t0 | (refine gs_t1 ?_ ?_))) <;> (simp only [sx_ev, sx_evl, gs_ofNat, gs_neg] ; omega))⟩
    · exact ⟨sx_σi [(1041, (.ofNat 0, []))] σ, gl_p_of rfl hp0, gl_hi rfl, gs_none rfl, gs_none rfl, gs_none rfl, (gs_some rfl).trans (by (simp only [sx_ev, sx_evl, gs_ofNat, gs_neg] ; omega)), tl_l_v2_0 hB (by (repeat' (first | exact bk_F0 | (refine bk_F1 ?_ ?_))) <;> (simp only [sx_ev, sx_evl, gs_ofNat, gs_neg] ; omega)) (by (repeat' (first | exact gs_t0 | (refine gs_t1 ?_ ?_))) <;> (simp only [sx_ev, sx_evl, gs_ofNat, gs_neg] ; omega))⟩
    · exact ⟨sx_σi [(1041, (.ofNat 0, [(1039, .ofNat 1)]))] σ, gl_p_of rfl hp0, gl_hi rfl, gs_none rfl, gs_none rfl, gs_none rfl, (gs_some rfl).trans (by (simp only [sx_ev, sx_evl, gs_ofNat, gs_neg] ; omega)), tl_l_v2_1 hB (by (repeat' (first | exact bk_F0 | (refine bk_F1 ?_ ?_))) <;> (simp only [sx_ev, sx_evl, gs_ofNat, gs_neg] ; omega)) (by (repeat' (first | exact gs_t0 | (refine gs_t1 ?_ ?_))) <;> (simp only [sx_ev, sx_evl, gs_ofNat, gs_neg] ; omega))⟩
    · exact ⟨sx_σi [(1041, (.ofNat 0, [(1039, .ofNat 2)]))] σ, gl_p_of rfl hp0, gl_hi rfl, gs_none rfl, gs_none rfl, gs_none rfl, (gs_some rfl).trans (by (simp only [sx_ev, sx_evl, gs_ofNat, gs_neg] ; omega)), tl_l_v2_2 hB (by (repeat' (first | exact bk_F0 | (refine bk_F1 ?_ ?_))) <;> (simp only [sx_ev, sx_evl, gs_ofNat, gs_neg] ; omega)) (by (repeat' (first | exact gs_t0 | (refine gs_t1 ?_ ?_))) <;> (simp only [sx_ev, sx_evl, gs_ofNat, gs_neg] ; omega))⟩
    · exact ⟨sx_σi [(1041, (.ofNat 0, [(1039, .ofNat 3)]))] σ, gl_p_of rfl hp0, gl_hi rfl, gs_none rfl, gs_none rfl, gs_none rfl, (gs_some rfl).trans (by (simp only [sx_ev, sx_evl, gs_ofNat, gs_neg] ; omega)), tl_l_v2_3 hB (by (repeat' (first | exact bk_F0 | (refine bk_F1 ?_ ?_))) <;> (simp only [sx_ev, sx_evl, gs_ofNat, gs_neg] ; omega)) (by (repeat' (first | exact gs_t0 | (refine gs_t1 ?_ ?_))) <;> (simp only [sx_ev, sx_evl, gs_ofNat, gs_neg] ; omega))⟩
    · exact ⟨sx_σi [(1041, (.ofNat 0, [(1039, .ofNat 4)]))] σ, gl_p_of rfl hp0, gl_hi rfl, gs_none rfl, gs_none rfl, gs_none rfl, (gs_some rfl).trans (by (simp only [sx_ev, sx_evl, gs_ofNat, gs_neg] ; omega)), tl_l_v2_4 hB (by (repeat' (first | exact bk_F0 | (refine bk_F1 ?_ ?_))) <;> (simp only [sx_ev, sx_evl, gs_ofNat, gs_neg] ; omega)) (by (repeat' (first | exact gs_t0 | (refine gs_t1 ?_ ?_))) <;> (simp only [sx_ev, sx_evl, gs_ofNat, gs_neg] ; omega))⟩
    · exact ⟨sx_σi [(1041, (.ofNat 0, [(1039, .ofNat 5)]))] σ, gl_p_of rfl hp0, gl_hi rfl, gs_none rfl, gs_none rfl, gs_none rfl, (gs_some rfl).trans (by (simp only [sx_ev, sx_evl, gs_ofNat, gs_neg] ; omega)), tl_l_v2_5 hB (by (repeat' (first | exact bk_F0 | (refine bk_F1 ?_ ?_))) <;> (simp only [sx_ev, sx_evl, gs_ofNat, gs_neg] ; omega)) (by (repeat' (first | exact gs_t0 | (refine gs_t1 ?_ ?_))) <;> (simp only [sx_ev, sx_evl, gs_ofNat, gs_neg] ; omega))⟩
    · exact ⟨sx_σi [(1041, (.ofNat 0, [(1039, .ofNat 6)]))] σ, gl_p_of rfl hp0, gl_hi rfl, gs_none rfl, gs_none rfl, gs_none rfl, (gs_some rfl).trans (by (simp only [sx_ev, sx_evl, gs_ofNat, gs_neg] ; omega)), tl_l_v2_6 hB (by (repeat' (first | exact bk_F0 | (refine bk_F1 ?_ ?_))) <;> (simp only [sx_ev, sx_evl, gs_ofNat, gs_neg] ; omega)) (by (repeat' (first | exact gs_t0 | (refine gs_t1 ?_ ?_))) <;> (simp only [sx_ev, sx_evl, gs_ofNat, gs_neg] ; omega))⟩
  · rcases Int.lt_trichotomy (σ 1039) (σ 1040) with ho | ho | ho
    · rw [if_pos (show σ 1039 < σ 1040 by omega)] at hv
      have hv := Option.some.inj hv
      exact ⟨sx_σi [(1041, (.ofNat 0, [(1040, .ofNat 1)]))] σ, gl_p_of rfl hp0, gl_hi rfl, gs_none rfl, gs_none rfl, gs_none rfl, (gs_some rfl).trans (by (simp only [sx_ev, sx_evl, gs_ofNat, gs_neg] ; omega)), tl_l_v3_m hB (by (repeat' (first | exact bk_F0 | (refine bk_F1 ?_ ?_))) <;> (simp only [sx_ev, sx_evl, gs_ofNat, gs_neg] ; omega)) (by (repeat' (first | exact gs_t0 | (refine gs_t1 ?_ ?_))) <;> (simp only [sx_ev, sx_evl, gs_ofNat, gs_neg] ; omega))⟩
    · rw [if_neg (show ¬ (σ 1039 < σ 1040) by omega)] at hv
      cases hv
    · rw [if_neg (show ¬ (σ 1039 < σ 1040) by omega)] at hv
      cases hv
  · rcases Int.lt_trichotomy (σ 1039) (σ 1040) with ho | ho | ho
    · rw [if_neg (show ¬ (σ 1039 ≥ σ 1040) by omega)] at hv
      cases hv
    · rw [if_pos (show σ 1039 ≥ σ 1040 by omega)] at hv
      have hv := Option.some.inj hv
      exact ⟨sx_σi [(1041, (.ofNat 0, [(1040, .ofNat 1)]))] σ, gl_p_of rfl hp0, gl_hi rfl, gs_none rfl, gs_none rfl, gs_none rfl, (gs_some rfl).trans (by (simp only [sx_ev, sx_evl, gs_ofNat, gs_neg] ; omega)), tl_l_v4_e hB (by (repeat' (first | exact bk_F0 | (refine bk_F1 ?_ ?_))) <;> (simp only [sx_ev, sx_evl, gs_ofNat, gs_neg] ; omega)) (by (repeat' (first | exact gs_t0 | (refine gs_t1 ?_ ?_))) <;> (simp only [sx_ev, sx_evl, gs_ofNat, gs_neg] ; omega))⟩
    · rw [if_pos (show σ 1039 ≥ σ 1040 by omega)] at hv
      have hv := Option.some.inj hv
      exact ⟨sx_σi [(1041, (.ofNat 0, [(1040, .ofNat 1)]))] σ, gl_p_of rfl hp0, gl_hi rfl, gs_none rfl, gs_none rfl, gs_none rfl, (gs_some rfl).trans (by (simp only [sx_ev, sx_evl, gs_ofNat, gs_neg] ; omega)), tl_l_v4_p hB (by (repeat' (first | exact bk_F0 | (refine bk_F1 ?_ ?_))) <;> (simp only [sx_ev, sx_evl, gs_ofNat, gs_neg] ; omega)) (by (repeat' (first | exact gs_t0 | (refine gs_t1 ?_ ?_))) <;> (simp only [sx_ev, sx_evl, gs_ofNat, gs_neg] ; omega))⟩
  · rcases Int.lt_trichotomy (σ 1039) (σ 1040) with ho | ho | ho
    · rw [if_pos (show σ 1039 ≠ σ 1040 by omega)] at hv
      have hv := Option.some.inj hv
      exact ⟨sx_σi [(1041, (.ofNat 0, [(1040, .ofNat 1)]))] σ, gl_p_of rfl hp0, gl_hi rfl, gs_none rfl, gs_none rfl, gs_none rfl, (gs_some rfl).trans (by (simp only [sx_ev, sx_evl, gs_ofNat, gs_neg] ; omega)), tl_l_v5_m hB (by (repeat' (first | exact bk_F0 | (refine bk_F1 ?_ ?_))) <;> (simp only [sx_ev, sx_evl, gs_ofNat, gs_neg] ; omega)) (by (repeat' (first | exact gs_t0 | (refine gs_t1 ?_ ?_))) <;> (simp only [sx_ev, sx_evl, gs_ofNat, gs_neg] ; omega))⟩
    · rw [if_neg (show ¬ (σ 1039 ≠ σ 1040) by omega)] at hv
      cases hv
    · rw [if_pos (show σ 1039 ≠ σ 1040 by omega)] at hv
      have hv := Option.some.inj hv
      exact ⟨sx_σi [(1041, (.ofNat 0, [(1040, .ofNat 1)]))] σ, gl_p_of rfl hp0, gl_hi rfl, gs_none rfl, gs_none rfl, gs_none rfl, (gs_some rfl).trans (by (simp only [sx_ev, sx_evl, gs_ofNat, gs_neg] ; omega)), tl_l_v5_p hB (by (repeat' (first | exact bk_F0 | (refine bk_F1 ?_ ?_))) <;> (simp only [sx_ev, sx_evl, gs_ofNat, gs_neg] ; omega)) (by (repeat' (first | exact gs_t0 | (refine gs_t1 ?_ ?_))) <;> (simp only [sx_ev, sx_evl, gs_ofNat, gs_neg] ; omega))⟩
theorem gl_vx {q : gs_P} {B : Nat → List (Nat × sx_C)} {z : Nat → Nat} {σ : Nat → Int} (hB : gw B) (hq : gs_ok q) (hp : gl_p q σ) (hx : -6 ≤ σ 1039 ∧ σ 1039 ≤ 6) (hy : -6 ≤ σ 1040 ∧ σ 1040 ≤ 6) (hv : gs_act q.A (σ 1039) (σ 1040) = none) : ∃ σ' : Nat → Int, gl_p q σ' ∧ (∀ u, u < 1000 → σ' u = σ u) ∧ σ' 1038 = σ 1038 ∧ σ' 1039 = σ 1039 ∧ σ' 1040 = σ 1040 ∧ σ' 1041 = 999999 ∧ gx_H 40 sm_L_law 18 726 0 0 z σ (bk_pt 240 gl_L10 [] B 300) σ' (bk_pt 249 (gl_L11 0) [] B 300) := by
  have hp0 := hp
  obtain ⟨p1, p2, p3, p4, p5, p6, p7, p8, p9, p10, p11⟩ := hp
  obtain ⟨⟨q1, q2, q3, q4, q5, q6, q7, q8, q9, q10, q11, q12⟩, ⟨q13, q14, q15⟩, ⟨q16, q17, q18⟩, ⟨q19, q20⟩, q21, q22⟩ := hq
  obtain ⟨x1, x2⟩ := hx
  obtain ⟨y1, y2⟩ := hy
  have hA : q.A = 0 ∨ q.A = 1 ∨ q.A = 2 ∨ q.A = 3 ∨ q.A = 4 ∨ q.A = 5 := by omega
  rcases hA with hA | hA | hA | hA | hA | hA <;> rw [hA] at p9 hv <;> simp only [gs_act] at hv
  · cases hv
  · cases hv
  · cases hv
  · rcases Int.lt_trichotomy (σ 1039) (σ 1040) with ho | ho | ho
    · rw [if_pos (show σ 1039 < σ 1040 by omega)] at hv
      cases hv
    · rw [if_neg (show ¬ (σ 1039 < σ 1040) by omega)] at hv
      exact ⟨sx_σi [(1041, (.ofNat 999999, []))] σ, gl_p_of rfl hp0, gl_hi rfl, gs_none rfl, gs_none rfl, gs_none rfl, (gs_some rfl).trans (by (simp only [sx_ev, sx_evl, gs_ofNat, gs_neg] ; omega)), tl_l_v3_e hB (by (repeat' (first | exact bk_F0 | (refine bk_F1 ?_ ?_))) <;> (simp only [sx_ev, sx_evl, gs_ofNat, gs_neg] ; omega)) (by (repeat' (first | exact gs_t0 | (refine gs_t1 ?_ ?_))) <;> (simp only [sx_ev, sx_evl, gs_ofNat, gs_neg] ; omega))⟩
    · rw [if_neg (show ¬ (σ 1039 < σ 1040) by omega)] at hv
      exact ⟨sx_σi [(1041, (.ofNat 999999, []))] σ, gl_p_of rfl hp0, gl_hi rfl, gs_none rfl, gs_none rfl, gs_none rfl, (gs_some rfl).trans (by (simp only [sx_ev, sx_evl, gs_ofNat, gs_neg] ; omega)), tl_l_v3_p hB (by (repeat' (first | exact bk_F0 | (refine bk_F1 ?_ ?_))) <;> (simp only [sx_ev, sx_evl, gs_ofNat, gs_neg] ; omega)) (by (repeat' (first | exact gs_t0 | (refine gs_t1 ?_ ?_))) <;> (simp only [sx_ev, sx_evl, gs_ofNat, gs_neg] ; omega))⟩
  · rcases Int.lt_trichotomy (σ 1039) (σ 1040) with ho | ho | ho
    · rw [if_neg (show ¬ (σ 1039 ≥ σ 1040) by omega)] at hv
      exact ⟨sx_σi [(1041, (.ofNat 999999, []))] σ, gl_p_of rfl hp0, gl_hi rfl, gs_none rfl, gs_none rfl, gs_none rfl, (gs_some rfl).trans (by (simp only [sx_ev, sx_evl, gs_ofNat, gs_neg] ; omega)), tl_l_v4_m hB (by (repeat' (first | exact bk_F0 | (refine bk_F1 ?_ ?_))) <;> (simp only [sx_ev, sx_evl, gs_ofNat, gs_neg] ; omega)) (by (repeat' (first | exact gs_t0 | (refine gs_t1 ?_ ?_))) <;> (simp only [sx_ev, sx_evl, gs_ofNat, gs_neg] ; omega))⟩
    · rw [if_pos (show σ 1039 ≥ σ 1040 by omega)] at hv
      cases hv
    · rw [if_pos (show σ 1039 ≥ σ 1040 by omega)] at hv
      cases hv
  · rcases Int.lt_trichotomy (σ 1039) (σ 1040) with ho | ho | ho
    · rw [if_pos (show σ 1039 ≠ σ 1040 by omega)] at hv
      cases hv
    · rw [if_neg (show ¬ (σ 1039 ≠ σ 1040) by omega)] at hv
      exact ⟨sx_σi [(1041, (.ofNat 999999, []))] σ, gl_p_of rfl hp0, gl_hi rfl, gs_none rfl, gs_none rfl, gs_none rfl, (gs_some rfl).trans (by (simp only [sx_ev, sx_evl, gs_ofNat, gs_neg] ; omega)), tl_l_v5_e hB (by (repeat' (first | exact bk_F0 | (refine bk_F1 ?_ ?_))) <;> (simp only [sx_ev, sx_evl, gs_ofNat, gs_neg] ; omega)) (by (repeat' (first | exact gs_t0 | (refine gs_t1 ?_ ?_))) <;> (simp only [sx_ev, sx_evl, gs_ofNat, gs_neg] ; omega))⟩
    · rw [if_pos (show σ 1039 ≠ σ 1040 by omega)] at hv
      cases hv
theorem gl_kx {q : gs_P} {B : Nat → List (Nat × sx_C)} {z : Nat → Nat} {σ : Nat → Int} (hB : gw B) (hq : gs_ok q) (hp : gl_p q σ) (hv : σ 1041 = 999999) : ∃ σ' : Nat → Int, gl_p q σ' ∧ (∀ u, u < 1000 → σ' u = σ u) ∧ σ' 1038 = σ 1038 ∧ σ' 1039 = σ 1039 ∧ σ' 1040 = σ 1040 ∧ gx_H 40 sm_L_law 18 726 0 0 z σ (bk_pt 249 (gl_L11 0) [] B 300) σ' (bk_pt 289 gl_L10 [] B 300) := by
  have hp0 := hp
  obtain ⟨p1, p2, p3, p4, p5, p6, p7, p8, p9, p10, p11⟩ := hp
  obtain ⟨⟨q1, q2, q3, q4, q5, q6, q7, q8, q9, q10, q11, q12⟩, ⟨q13, q14, q15⟩, ⟨q16, q17, q18⟩, ⟨q19, q20⟩, q21, q22⟩ := hq
  exact ⟨sx_σi [] σ, gl_p_of rfl hp0, gl_hi rfl, gs_none rfl, gs_none rfl, gs_none rfl, tl_l_kx0 hB (by (repeat' (first | exact bk_F0 | (refine bk_F1 ?_ ?_))) <;> (simp only [sx_ev, sx_evl, gs_ofNat, gs_neg] ; omega)) (by (repeat' (first | exact gs_t0 | (refine gs_t1 ?_ ?_))) <;> (simp only [sx_ev, sx_evl, gs_ofNat, gs_neg] ; omega))⟩
theorem gl_k2 {q : gs_P} {B : Nat → List (Nat × sx_C)} {z : Nat → Nat} {σ : Nat → Int} (hB : gw B) (hq : gs_ok q) (hp : gl_p q σ) (hv : -100 ≤ σ 1041 ∧ σ 1041 ≤ 100) : ∃ σ' : Nat → Int, gl_p q σ' ∧ (∀ u, u < 1000 → σ' u = σ u) ∧ σ' 1038 = σ 1038 ∧ σ' 1039 = σ 1039 ∧ σ' 1040 = σ 1040 ∧ gx_H 40 sm_L_law 18 726 0 0 z σ (bk_pt 249 (gl_L11 2) [] B 300) σ' (bk_pt 289 gl_L10 [] B 300) := by
  have hp0 := hp
  obtain ⟨p1, p2, p3, p4, p5, p6, p7, p8, p9, p10, p11⟩ := hp
  obtain ⟨⟨q1, q2, q3, q4, q5, q6, q7, q8, q9, q10, q11, q12⟩, ⟨q13, q14, q15⟩, ⟨q16, q17, q18⟩, ⟨q19, q20⟩, q21, q22⟩ := hq
  obtain ⟨v1, v2⟩ := hv
  exact ⟨sx_σi [] σ, gl_p_of rfl hp0, gl_hi rfl, gs_none rfl, gs_none rfl, gs_none rfl, tl_l_k2 hB (by (repeat' (first | exact bk_F0 | (refine bk_F1 ?_ ?_))) <;> (simp only [sx_ev, sx_evl, gs_ofNat, gs_neg] ; omega)) (by (repeat' (first | exact gs_t0 | (refine gs_t1 ?_ ?_))) <;> (simp only [sx_ev, sx_evl, gs_ofNat, gs_neg] ; omega))⟩
theorem gl_w0 {q : gs_P} {B : Nat → List (Nat × sx_C)} {z : Nat → Nat} {σ : Nat → Int} (hB : gw B) (hq : gs_ok q) (hp : gl_p q σ) {w0 : Int} (hr : -100 ≤ σ 1041 ∧ σ 1041 ≤ 100) (hv : gs_act q.B (σ 1041) q.g = some w0) : ∃ σ' : Nat → Int, gl_p q σ' ∧ (∀ u, u < 1000 → σ' u = σ u) ∧ σ' 1038 = σ 1038 ∧ σ' 1039 = σ 1039 ∧ σ' 1040 = σ 1040 ∧ σ' 1041 = σ 1041 ∧ σ' 1042 = w0 ∧ gx_H 40 sm_L_law 18 726 0 0 z σ (bk_pt 249 (gl_L11 0) [] B 300) σ' (bk_pt 270 (gl_L14 0) [] B 300) := by
  have hp0 := hp
  obtain ⟨p1, p2, p3, p4, p5, p6, p7, p8, p9, p10, p11⟩ := hp
  obtain ⟨⟨q1, q2, q3, q4, q5, q6, q7, q8, q9, q10, q11, q12⟩, ⟨q13, q14, q15⟩, ⟨q16, q17, q18⟩, ⟨q19, q20⟩, q21, q22⟩ := hq
  obtain ⟨v1, v2⟩ := hr
  have hA : q.B = 0 ∨ q.B = 1 ∨ q.B = 2 ∨ q.B = 3 ∨ q.B = 4 ∨ q.B = 5 := by omega
  rcases hA with hA | hA | hA | hA | hA | hA <;> rw [hA] at p10 hv <;> simp only [gs_act] at hv
  · have hv := Option.some.inj hv
    exact ⟨sx_σi [(1042, (.ofNat 0, [(1024, .ofNat 1), (1041, .ofNat 1)]))] σ, gl_p_of rfl hp0, gl_hi rfl, gs_none rfl, gs_none rfl, gs_none rfl, gs_none rfl, (gs_some rfl).trans (by (simp only [sx_ev, sx_evl, gs_ofNat, gs_neg] ; omega)), tl_l_w00 hB (by (repeat' (first | exact bk_F0 | (refine bk_F1 ?_ ?_))) <;> (simp only [sx_ev, sx_evl, gs_ofNat, gs_neg] ; omega)) (by (repeat' (first | exact gs_t0 | (refine gs_t1 ?_ ?_))) <;> (simp only [sx_ev, sx_evl, gs_ofNat, gs_neg] ; omega))⟩
  · have hv := Option.some.inj hv
    exact ⟨sx_σi [(1042, (.ofNat 0, [(1024, .negSucc 0), (1041, .ofNat 1)]))] σ, gl_p_of rfl hp0, gl_hi rfl, gs_none rfl, gs_none rfl, gs_none rfl, gs_none rfl, (gs_some rfl).trans (by (simp only [sx_ev, sx_evl, gs_ofNat, gs_neg] ; omega)), tl_l_w01 hB (by (repeat' (first | exact bk_F0 | (refine bk_F1 ?_ ?_))) <;> (simp only [sx_ev, sx_evl, gs_ofNat, gs_neg] ; omega)) (by (repeat' (first | exact gs_t0 | (refine gs_t1 ?_ ?_))) <;> (simp only [sx_ev, sx_evl, gs_ofNat, gs_neg] ; omega))⟩
  · have hv := Option.some.inj hv
    have hk : q.g = -6 ∨ q.g = -5 ∨ q.g = -4 ∨ q.g = -3 ∨ q.g = -2 ∨ q.g = -1 ∨ q.g = 0 ∨ q.g = 1 ∨ q.g = 2 ∨ q.g = 3 ∨ q.g = 4 ∨ q.g = 5 ∨ q.g = 6 := by omega
    rcases hk with hk | hk | hk | hk | hk | hk | hk | hk | hk | hk | hk | hk | hk <;> rw [hk] at hv
    · exact ⟨sx_σi [(1042, (.ofNat 0, [(1041, .negSucc 5)]))] σ, gl_p_of rfl hp0, gl_hi rfl, gs_none rfl, gs_none rfl, gs_none rfl, gs_none rfl, (gs_some rfl).trans (by (simp only [sx_ev, sx_evl, gs_ofNat, gs_neg] ; omega)), tl_l_w02_n6 hB (by (repeat' (first | exact bk_F0 | (refine bk_F1 ?_ ?_))) <;> (simp only [sx_ev, sx_evl, gs_ofNat, gs_neg] ; omega)) (by (repeat' (first | exact gs_t0 | (refine gs_t1 ?_ ?_))) <;> (simp only [sx_ev, sx_evl, gs_ofNat, gs_neg] ; omega))⟩
    · exact ⟨sx_σi [(1042, (.ofNat 0, [(1041, .negSucc 4)]))] σ, gl_p_of rfl hp0, gl_hi rfl, gs_none rfl, gs_none rfl, gs_none rfl, gs_none rfl, (gs_some rfl).trans (by (simp only [sx_ev, sx_evl, gs_ofNat, gs_neg] ; omega)), tl_l_w02_n5 hB (by (repeat' (first | exact bk_F0 | (refine bk_F1 ?_ ?_))) <;> (simp only [sx_ev, sx_evl, gs_ofNat, gs_neg] ; omega)) (by (repeat' (first | exact gs_t0 | (refine gs_t1 ?_ ?_))) <;> (simp only [sx_ev, sx_evl, gs_ofNat, gs_neg] ; omega))⟩
    · exact ⟨sx_σi [(1042, (.ofNat 0, [(1041, .negSucc 3)]))] σ, gl_p_of rfl hp0, gl_hi rfl, gs_none rfl, gs_none rfl, gs_none rfl, gs_none rfl, (gs_some rfl).trans (by (simp only [sx_ev, sx_evl, gs_ofNat, gs_neg] ; omega)), tl_l_w02_n4 hB (by (repeat' (first | exact bk_F0 | (refine bk_F1 ?_ ?_))) <;> (simp only [sx_ev, sx_evl, gs_ofNat, gs_neg] ; omega)) (by (repeat' (first | exact gs_t0 | (refine gs_t1 ?_ ?_))) <;> (simp only [sx_ev, sx_evl, gs_ofNat, gs_neg] ; omega))⟩
    · exact ⟨sx_σi [(1042, (.ofNat 0, [(1041, .negSucc 2)]))] σ, gl_p_of rfl hp0, gl_hi rfl, gs_none rfl, gs_none rfl, gs_none rfl, gs_none rfl, (gs_some rfl).trans (by (simp only [sx_ev, sx_evl, gs_ofNat, gs_neg] ; omega)), tl_l_w02_n3 hB (by (repeat' (first | exact bk_F0 | (refine bk_F1 ?_ ?_))) <;> (simp only [sx_ev, sx_evl, gs_ofNat, gs_neg] ; omega)) (by (repeat' (first | exact gs_t0 | (refine gs_t1 ?_ ?_))) <;> (simp only [sx_ev, sx_evl, gs_ofNat, gs_neg] ; omega))⟩
    · exact ⟨sx_σi [(1042, (.ofNat 0, [(1041, .negSucc 1)]))] σ, gl_p_of rfl hp0, gl_hi rfl, gs_none rfl, gs_none rfl, gs_none rfl, gs_none rfl, (gs_some rfl).trans (by (simp only [sx_ev, sx_evl, gs_ofNat, gs_neg] ; omega)), tl_l_w02_n2 hB (by (repeat' (first | exact bk_F0 | (refine bk_F1 ?_ ?_))) <;> (simp only [sx_ev, sx_evl, gs_ofNat, gs_neg] ; omega)) (by (repeat' (first | exact gs_t0 | (refine gs_t1 ?_ ?_))) <;> (simp only [sx_ev, sx_evl, gs_ofNat, gs_neg] ; omega))⟩
    · exact ⟨sx_σi [(1042, (.ofNat 0, [(1041, .negSucc 0)]))] σ, gl_p_of rfl hp0, gl_hi rfl, gs_none rfl, gs_none rfl, gs_none rfl, gs_none rfl, (gs_some rfl).trans (by (simp only [sx_ev, sx_evl, gs_ofNat, gs_neg] ; omega)), tl_l_w02_n1 hB (by (repeat' (first | exact bk_F0 | (refine bk_F1 ?_ ?_))) <;> (simp only [sx_ev, sx_evl, gs_ofNat, gs_neg] ; omega)) (by (repeat' (first | exact gs_t0 | (refine gs_t1 ?_ ?_))) <;> (simp only [sx_ev, sx_evl, gs_ofNat, gs_neg] ; omega))⟩
    · exact ⟨sx_σi [(1042, (.ofNat 0, []))] σ, gl_p_of rfl hp0, gl_hi rfl, gs_none rfl, gs_none rfl, gs_none rfl, gs_none rfl, (gs_some rfl).trans (by (simp only [sx_ev, sx_evl, gs_ofNat, gs_neg] ; omega)), tl_l_w02_0 hB (by (repeat' (first | exact bk_F0 | (refine bk_F1 ?_ ?_))) <;> (simp only [sx_ev, sx_evl, gs_ofNat, gs_neg] ; omega)) (by (repeat' (first | exact gs_t0 | (refine gs_t1 ?_ ?_))) <;> (simp only [sx_ev, sx_evl, gs_ofNat, gs_neg] ; omega))⟩
    · exact ⟨sx_σi [(1042, (.ofNat 0, [(1041, .ofNat 1)]))] σ, gl_p_of rfl hp0, gl_hi rfl, gs_none rfl, gs_none rfl, gs_none rfl, gs_none rfl, (gs_some rfl).trans (by (simp only [sx_ev, sx_evl, gs_ofNat, gs_neg] ; omega)), tl_l_w02_1 hB (by (repeat' (first | exact bk_F0 | (refine bk_F1 ?_ ?_))) <;> (simp only [sx_ev, sx_evl, gs_ofNat, gs_neg] ; omega)) (by (repeat' (first | exact gs_t0 | (refine gs_t1 ?_ ?_))) <;> (simp only [sx_ev, sx_evl, gs_ofNat, gs_neg] ; omega))⟩
    · exact ⟨sx_σi [(1042, (.ofNat 0, [(1041, .ofNat 2)]))] σ, gl_p_of rfl hp0, gl_hi rfl, gs_none rfl, gs_none rfl, gs_none rfl, gs_none rfl, (gs_some rfl).trans (by (simp only [sx_ev, sx_evl, gs_ofNat, gs_neg] ; omega)), tl_l_w02_2 hB (by (repeat' (first | exact bk_F0 | (refine bk_F1 ?_ ?_))) <;> (simp only [sx_ev, sx_evl, gs_ofNat, gs_neg] ; omega)) (by (repeat' (first | exact gs_t0 | (refine gs_t1 ?_ ?_))) <;> (simp only [sx_ev, sx_evl, gs_ofNat, gs_neg] ; omega))⟩
    · exact ⟨sx_σi [(1042, (.ofNat 0, [(1041, .ofNat 3)]))] σ, gl_p_of rfl hp0, gl_hi rfl, gs_none rfl, gs_none rfl, gs_none rfl, gs_none rfl, (gs_some rfl).trans (by (simp only [sx_ev, sx_evl, gs_ofNat, gs_neg] ; omega)), tl_l_w02_3 hB (by (repeat' (first | exact bk_F0 | (refine bk_F1 ?_ ?_))) <;> (simp only [sx_ev, sx_evl, gs_ofNat, gs_neg] ; omega)) (by (repeat' (first | exact gs_t0 | (refine gs_t1 ?_ ?_))) <;> (simp only [sx_ev, sx_evl, gs_ofNat, gs_neg] ; omega))⟩
    · exact ⟨sx_σi [(1042, (.ofNat 0, [(1041, .ofNat 4)]))] σ, gl_p_of rfl hp0, gl_hi rfl, gs_none rfl, gs_none rfl, gs_none rfl, gs_none rfl, (gs_some rfl).trans (by (simp only [sx_ev, sx_evl, gs_ofNat, gs_neg] ; omega)), tl_l_w02_4 hB (by (repeat' (first | exact bk_F0 | (refine bk_F1 ?_ ?_))) <;> (simp only [sx_ev, sx_evl, gs_ofNat, gs_neg] ; omega)) (by (repeat' (first | exact gs_t0 | (refine gs_t1 ?_ ?_))) <;> (simp only [sx_ev, sx_evl, gs_ofNat, gs_neg] ; omega))⟩
    · exact ⟨sx_σi [(1042, (.ofNat 0, [(1041, .ofNat 5)]))] σ, gl_p_of rfl hp0, gl_hi rfl, gs_none rfl, gs_none rfl, gs_none rfl, gs_none rfl, (gs_some rfl).trans (by (simp only [sx_ev, sx_evl, gs_ofNat, gs_neg] ; omega)), tl_l_w02_5 hB (by (repeat' (first | exact bk_F0 | (refine bk_F1 ?_ ?_))) <;> (simp only [sx_ev, sx_evl, gs_ofNat, gs_neg] ; omega)) (by (repeat' (first | exact gs_t0 | (refine gs_t1 ?_ ?_))) <;> (simp only [sx_ev, sx_evl, gs_ofNat, gs_neg] ; omega))⟩
    · exact ⟨sx_σi [(1042, (.ofNat 0, [(1041, .ofNat 6)]))] σ, gl_p_of rfl hp0, gl_hi rfl, gs_none rfl, gs_none rfl, gs_none rfl, gs_none rfl, (gs_some rfl).trans (by (simp only [sx_ev, sx_evl, gs_ofNat, gs_neg] ; omega)), tl_l_w02_6 hB (by (repeat' (first | exact bk_F0 | (refine bk_F1 ?_ ?_))) <;> (simp only [sx_ev, sx_evl, gs_ofNat, gs_neg] ; omega)) (by (repeat' (first | exact gs_t0 | (refine gs_t1 ?_ ?_))) <;> (simp only [sx_ev, sx_evl, gs_ofNat, gs_neg] ; omega))⟩
  · rcases Int.lt_trichotomy (σ 1041) q.g with ho | ho | ho
    · rw [if_pos (show σ 1041 < q.g by omega)] at hv
      have hv := Option.some.inj hv
      exact ⟨sx_σi [(1042, (.ofNat 0, [(1024, .ofNat 1)]))] σ, gl_p_of rfl hp0, gl_hi rfl, gs_none rfl, gs_none rfl, gs_none rfl, gs_none rfl, (gs_some rfl).trans (by (simp only [sx_ev, sx_evl, gs_ofNat, gs_neg] ; omega)), tl_l_w03_m hB (by (repeat' (first | exact bk_F0 | (refine bk_F1 ?_ ?_))) <;> (simp only [sx_ev, sx_evl, gs_ofNat, gs_neg] ; omega)) (by (repeat' (first | exact gs_t0 | (refine gs_t1 ?_ ?_))) <;> (simp only [sx_ev, sx_evl, gs_ofNat, gs_neg] ; omega))⟩
    · rw [if_neg (show ¬ (σ 1041 < q.g) by omega)] at hv
      cases hv
    · rw [if_neg (show ¬ (σ 1041 < q.g) by omega)] at hv
      cases hv
  · rcases Int.lt_trichotomy (σ 1041) q.g with ho | ho | ho
    · rw [if_neg (show ¬ (σ 1041 ≥ q.g) by omega)] at hv
      cases hv
    · rw [if_pos (show σ 1041 ≥ q.g by omega)] at hv
      have hv := Option.some.inj hv
      exact ⟨sx_σi [(1042, (.ofNat 0, [(1024, .ofNat 1)]))] σ, gl_p_of rfl hp0, gl_hi rfl, gs_none rfl, gs_none rfl, gs_none rfl, gs_none rfl, (gs_some rfl).trans (by (simp only [sx_ev, sx_evl, gs_ofNat, gs_neg] ; omega)), tl_l_w04_e hB (by (repeat' (first | exact bk_F0 | (refine bk_F1 ?_ ?_))) <;> (simp only [sx_ev, sx_evl, gs_ofNat, gs_neg] ; omega)) (by (repeat' (first | exact gs_t0 | (refine gs_t1 ?_ ?_))) <;> (simp only [sx_ev, sx_evl, gs_ofNat, gs_neg] ; omega))⟩
    · rw [if_pos (show σ 1041 ≥ q.g by omega)] at hv
      have hv := Option.some.inj hv
      exact ⟨sx_σi [(1042, (.ofNat 0, [(1024, .ofNat 1)]))] σ, gl_p_of rfl hp0, gl_hi rfl, gs_none rfl, gs_none rfl, gs_none rfl, gs_none rfl, (gs_some rfl).trans (by (simp only [sx_ev, sx_evl, gs_ofNat, gs_neg] ; omega)), tl_l_w04_p hB (by (repeat' (first | exact bk_F0 | (refine bk_F1 ?_ ?_))) <;> (simp only [sx_ev, sx_evl, gs_ofNat, gs_neg] ; omega)) (by (repeat' (first | exact gs_t0 | (refine gs_t1 ?_ ?_))) <;> (simp only [sx_ev, sx_evl, gs_ofNat, gs_neg] ; omega))⟩
  · rcases Int.lt_trichotomy (σ 1041) q.g with ho | ho | ho
    · rw [if_pos (show σ 1041 ≠ q.g by omega)] at hv
      have hv := Option.some.inj hv
      exact ⟨sx_σi [(1042, (.ofNat 0, [(1024, .ofNat 1)]))] σ, gl_p_of rfl hp0, gl_hi rfl, gs_none rfl, gs_none rfl, gs_none rfl, gs_none rfl, (gs_some rfl).trans (by (simp only [sx_ev, sx_evl, gs_ofNat, gs_neg] ; omega)), tl_l_w05_m hB (by (repeat' (first | exact bk_F0 | (refine bk_F1 ?_ ?_))) <;> (simp only [sx_ev, sx_evl, gs_ofNat, gs_neg] ; omega)) (by (repeat' (first | exact gs_t0 | (refine gs_t1 ?_ ?_))) <;> (simp only [sx_ev, sx_evl, gs_ofNat, gs_neg] ; omega))⟩
    · rw [if_neg (show ¬ (σ 1041 ≠ q.g) by omega)] at hv
      cases hv
    · rw [if_pos (show σ 1041 ≠ q.g by omega)] at hv
      have hv := Option.some.inj hv
      exact ⟨sx_σi [(1042, (.ofNat 0, [(1024, .ofNat 1)]))] σ, gl_p_of rfl hp0, gl_hi rfl, gs_none rfl, gs_none rfl, gs_none rfl, gs_none rfl, (gs_some rfl).trans (by (simp only [sx_ev, sx_evl, gs_ofNat, gs_neg] ; omega)), tl_l_w05_p hB (by (repeat' (first | exact bk_F0 | (refine bk_F1 ?_ ?_))) <;> (simp only [sx_ev, sx_evl, gs_ofNat, gs_neg] ; omega)) (by (repeat' (first | exact gs_t0 | (refine gs_t1 ?_ ?_))) <;> (simp only [sx_ev, sx_evl, gs_ofNat, gs_neg] ; omega))⟩
theorem gl_w0x {q : gs_P} {B : Nat → List (Nat × sx_C)} {z : Nat → Nat} {σ : Nat → Int} (hB : gw B) (hq : gs_ok q) (hp : gl_p q σ) (hr : -100 ≤ σ 1041 ∧ σ 1041 ≤ 100) (hv : gs_act q.B (σ 1041) q.g = none) : ∃ σ' : Nat → Int, gl_p q σ' ∧ (∀ u, u < 1000 → σ' u = σ u) ∧ σ' 1038 = σ 1038 ∧ σ' 1039 = σ 1039 ∧ σ' 1040 = σ 1040 ∧ σ' 1041 = σ 1041 ∧ gx_H 40 sm_L_law 18 726 0 0 z σ (bk_pt 249 (gl_L11 0) [] B 300) σ' (bk_pt 249 (gl_L11 1) [] B 300) := by
  have hp0 := hp
  obtain ⟨p1, p2, p3, p4, p5, p6, p7, p8, p9, p10, p11⟩ := hp
  obtain ⟨⟨q1, q2, q3, q4, q5, q6, q7, q8, q9, q10, q11, q12⟩, ⟨q13, q14, q15⟩, ⟨q16, q17, q18⟩, ⟨q19, q20⟩, q21, q22⟩ := hq
  obtain ⟨v1, v2⟩ := hr
  have hA : q.B = 0 ∨ q.B = 1 ∨ q.B = 2 ∨ q.B = 3 ∨ q.B = 4 ∨ q.B = 5 := by omega
  rcases hA with hA | hA | hA | hA | hA | hA <;> rw [hA] at p10 hv <;> simp only [gs_act] at hv
  · cases hv
  · cases hv
  · cases hv
  · rcases Int.lt_trichotomy (σ 1041) q.g with ho | ho | ho
    · rw [if_pos (show σ 1041 < q.g by omega)] at hv
      cases hv
    · rw [if_neg (show ¬ (σ 1041 < q.g) by omega)] at hv
      exact ⟨sx_σi [] σ, gl_p_of rfl hp0, gl_hi rfl, gs_none rfl, gs_none rfl, gs_none rfl, gs_none rfl, tl_l_w03_e hB (by (repeat' (first | exact bk_F0 | (refine bk_F1 ?_ ?_))) <;> (simp only [sx_ev, sx_evl, gs_ofNat, gs_neg] ; omega)) (by (repeat' (first | exact gs_t0 | (refine gs_t1 ?_ ?_))) <;> (simp only [sx_ev, sx_evl, gs_ofNat, gs_neg] ; omega))⟩
    · rw [if_neg (show ¬ (σ 1041 < q.g) by omega)] at hv
      exact ⟨sx_σi [] σ, gl_p_of rfl hp0, gl_hi rfl, gs_none rfl, gs_none rfl, gs_none rfl, gs_none rfl, tl_l_w03_p hB (by (repeat' (first | exact bk_F0 | (refine bk_F1 ?_ ?_))) <;> (simp only [sx_ev, sx_evl, gs_ofNat, gs_neg] ; omega)) (by (repeat' (first | exact gs_t0 | (refine gs_t1 ?_ ?_))) <;> (simp only [sx_ev, sx_evl, gs_ofNat, gs_neg] ; omega))⟩
  · rcases Int.lt_trichotomy (σ 1041) q.g with ho | ho | ho
    · rw [if_neg (show ¬ (σ 1041 ≥ q.g) by omega)] at hv
      exact ⟨sx_σi [] σ, gl_p_of rfl hp0, gl_hi rfl, gs_none rfl, gs_none rfl, gs_none rfl, gs_none rfl, tl_l_w04_m hB (by (repeat' (first | exact bk_F0 | (refine bk_F1 ?_ ?_))) <;> (simp only [sx_ev, sx_evl, gs_ofNat, gs_neg] ; omega)) (by (repeat' (first | exact gs_t0 | (refine gs_t1 ?_ ?_))) <;> (simp only [sx_ev, sx_evl, gs_ofNat, gs_neg] ; omega))⟩
    · rw [if_pos (show σ 1041 ≥ q.g by omega)] at hv
      cases hv
    · rw [if_pos (show σ 1041 ≥ q.g by omega)] at hv
      cases hv
  · rcases Int.lt_trichotomy (σ 1041) q.g with ho | ho | ho
    · rw [if_pos (show σ 1041 ≠ q.g by omega)] at hv
      cases hv
    · rw [if_neg (show ¬ (σ 1041 ≠ q.g) by omega)] at hv
      exact ⟨sx_σi [] σ, gl_p_of rfl hp0, gl_hi rfl, gs_none rfl, gs_none rfl, gs_none rfl, gs_none rfl, tl_l_w05_e hB (by (repeat' (first | exact bk_F0 | (refine bk_F1 ?_ ?_))) <;> (simp only [sx_ev, sx_evl, gs_ofNat, gs_neg] ; omega)) (by (repeat' (first | exact gs_t0 | (refine gs_t1 ?_ ?_))) <;> (simp only [sx_ev, sx_evl, gs_ofNat, gs_neg] ; omega))⟩
    · rw [if_pos (show σ 1041 ≠ q.g by omega)] at hv
      cases hv
theorem gl_w1 {q : gs_P} {B : Nat → List (Nat × sx_C)} {z : Nat → Nat} {σ : Nat → Int} (hB : gw B) (hq : gs_ok q) (hp : gl_p q σ) {w0 : Int} (hr : -100 ≤ σ 1041 ∧ σ 1041 ≤ 100) (hv : gs_act q.B (σ 1041) q.h = some w0) : ∃ σ' : Nat → Int, gl_p q σ' ∧ (∀ u, u < 1000 → σ' u = σ u) ∧ σ' 1038 = σ 1038 ∧ σ' 1039 = σ 1039 ∧ σ' 1040 = σ 1040 ∧ σ' 1041 = σ 1041 ∧ σ' 1042 = w0 ∧ gx_H 40 sm_L_law 18 726 0 0 z σ (bk_pt 249 (gl_L11 1) [] B 300) σ' (bk_pt 270 (gl_L14 1) [] B 300) := by
  have hp0 := hp
  obtain ⟨p1, p2, p3, p4, p5, p6, p7, p8, p9, p10, p11⟩ := hp
  obtain ⟨⟨q1, q2, q3, q4, q5, q6, q7, q8, q9, q10, q11, q12⟩, ⟨q13, q14, q15⟩, ⟨q16, q17, q18⟩, ⟨q19, q20⟩, q21, q22⟩ := hq
  obtain ⟨v1, v2⟩ := hr
  have hA : q.B = 0 ∨ q.B = 1 ∨ q.B = 2 ∨ q.B = 3 ∨ q.B = 4 ∨ q.B = 5 := by omega
  rcases hA with hA | hA | hA | hA | hA | hA <;> rw [hA] at p10 hv <;> simp only [gs_act] at hv
  · have hv := Option.some.inj hv
    exact ⟨sx_σi [(1042, (.ofNat 0, [(1025, .ofNat 1), (1041, .ofNat 1)]))] σ, gl_p_of rfl hp0, gl_hi rfl, gs_none rfl, gs_none rfl, gs_none rfl, gs_none rfl, (gs_some rfl).trans (by (simp only [sx_ev, sx_evl, gs_ofNat, gs_neg] ; omega)), tl_l_w10 hB (by (repeat' (first | exact bk_F0 | (refine bk_F1 ?_ ?_))) <;> (simp only [sx_ev, sx_evl, gs_ofNat, gs_neg] ; omega)) (by (repeat' (first | exact gs_t0 | (refine gs_t1 ?_ ?_))) <;> (simp only [sx_ev, sx_evl, gs_ofNat, gs_neg] ; omega))⟩
  · have hv := Option.some.inj hv
    exact ⟨sx_σi [(1042, (.ofNat 0, [(1025, .negSucc 0), (1041, .ofNat 1)]))] σ, gl_p_of rfl hp0, gl_hi rfl, gs_none rfl, gs_none rfl, gs_none rfl, gs_none rfl, (gs_some rfl).trans (by (simp only [sx_ev, sx_evl, gs_ofNat, gs_neg] ; omega)), tl_l_w11 hB (by (repeat' (first | exact bk_F0 | (refine bk_F1 ?_ ?_))) <;> (simp only [sx_ev, sx_evl, gs_ofNat, gs_neg] ; omega)) (by (repeat' (first | exact gs_t0 | (refine gs_t1 ?_ ?_))) <;> (simp only [sx_ev, sx_evl, gs_ofNat, gs_neg] ; omega))⟩
  · have hv := Option.some.inj hv
    have hk : q.h = -6 ∨ q.h = -5 ∨ q.h = -4 ∨ q.h = -3 ∨ q.h = -2 ∨ q.h = -1 ∨ q.h = 0 ∨ q.h = 1 ∨ q.h = 2 ∨ q.h = 3 ∨ q.h = 4 ∨ q.h = 5 ∨ q.h = 6 := by omega
    rcases hk with hk | hk | hk | hk | hk | hk | hk | hk | hk | hk | hk | hk | hk <;> rw [hk] at hv
    · exact ⟨sx_σi [(1042, (.ofNat 0, [(1041, .negSucc 5)]))] σ, gl_p_of rfl hp0, gl_hi rfl, gs_none rfl, gs_none rfl, gs_none rfl, gs_none rfl, (gs_some rfl).trans (by (simp only [sx_ev, sx_evl, gs_ofNat, gs_neg] ; omega)), tl_l_w12_n6 hB (by (repeat' (first | exact bk_F0 | (refine bk_F1 ?_ ?_))) <;> (simp only [sx_ev, sx_evl, gs_ofNat, gs_neg] ; omega)) (by (repeat' (first | exact gs_t0 | (refine gs_t1 ?_ ?_))) <;> (simp only [sx_ev, sx_evl, gs_ofNat, gs_neg] ; omega))⟩
    · exact ⟨sx_σi [(1042, (.ofNat 0, [(1041, .negSucc 4)]))] σ, gl_p_of rfl hp0, gl_hi rfl, gs_none rfl, gs_none rfl, gs_none rfl, gs_none rfl, (gs_some rfl).trans (by (simp only [sx_ev, sx_evl, gs_ofNat, gs_neg] ; omega)), tl_l_w12_n5 hB (by (repeat' (first | exact bk_F0 | (refine bk_F1 ?_ ?_))) <;> (simp only [sx_ev, sx_evl, gs_ofNat, gs_neg] ; omega)) (by (repeat' (first | exact gs_t0 | (refine gs_t1 ?_ ?_))) <;> (simp only [sx_ev, sx_evl, gs_ofNat, gs_neg] ; omega))⟩
    · exact ⟨sx_σi [(1042, (.ofNat 0, [(1041, .negSucc 3)]))] σ, gl_p_of rfl hp0, gl_hi rfl, gs_none rfl, gs_none rfl, gs_none rfl, gs_none rfl, (gs_some rfl).trans (by (simp only [sx_ev, sx_evl, gs_ofNat, gs_neg] ; omega)), tl_l_w12_n4 hB (by (repeat' (first | exact bk_F0 | (refine bk_F1 ?_ ?_))) <;> (simp only [sx_ev, sx_evl, gs_ofNat, gs_neg] ; omega)) (by (repeat' (first | exact gs_t0 | (refine gs_t1 ?_ ?_))) <;> (simp only [sx_ev, sx_evl, gs_ofNat, gs_neg] ; omega))⟩
    · exact ⟨sx_σi [(1042, (.ofNat 0, [(1041, .negSucc 2)]))] σ, gl_p_of rfl hp0, gl_hi rfl, gs_none rfl, gs_none rfl, gs_none rfl, gs_none rfl, (gs_some rfl).trans (by (simp only [sx_ev, sx_evl, gs_ofNat, gs_neg] ; omega)), tl_l_w12_n3 hB (by (repeat' (first | exact bk_F0 | (refine bk_F1 ?_ ?_))) <;> (simp only [sx_ev, sx_evl, gs_ofNat, gs_neg] ; omega)) (by (repeat' (first | exact gs_t0 | (refine gs_t1 ?_ ?_))) <;> (simp only [sx_ev, sx_evl, gs_ofNat, gs_neg] ; omega))⟩
    · exact ⟨sx_σi [(1042, (.ofNat 0, [(1041, .negSucc 1)]))] σ, gl_p_of rfl hp0, gl_hi rfl, gs_none rfl, gs_none rfl, gs_none rfl, gs_none rfl, (gs_some rfl).trans (by (simp only [sx_ev, sx_evl, gs_ofNat, gs_neg] ; omega)), tl_l_w12_n2 hB (by (repeat' (first | exact bk_F0 | (refine bk_F1 ?_ ?_))) <;> (simp only [sx_ev, sx_evl, gs_ofNat, gs_neg] ; omega)) (by (repeat' (first | exact gs_t0 | (refine gs_t1 ?_ ?_))) <;> (simp only [sx_ev, sx_evl, gs_ofNat, gs_neg] ; omega))⟩
    · exact ⟨sx_σi [(1042, (.ofNat 0, [(1041, .negSucc 0)]))] σ, gl_p_of rfl hp0, gl_hi rfl, gs_none rfl, gs_none rfl, gs_none rfl, gs_none rfl, (gs_some rfl).trans (by (simp only [sx_ev, sx_evl, gs_ofNat, gs_neg] ; omega)), tl_l_w12_n1 hB (by (repeat' (first | exact bk_F0 | (refine bk_F1 ?_ ?_))) <;> (simp only [sx_ev, sx_evl, gs_ofNat, gs_neg] ; omega)) (by (repeat' (first | exact gs_t0 | (refine gs_t1 ?_ ?_))) <;> (simp only [sx_ev, sx_evl, gs_ofNat, gs_neg] ; omega))⟩
    · exact ⟨sx_σi [(1042, (.ofNat 0, []))] σ, gl_p_of rfl hp0, gl_hi rfl, gs_none rfl, gs_none rfl, gs_none rfl, gs_none rfl, (gs_some rfl).trans (by (simp only [sx_ev, sx_evl, gs_ofNat, gs_neg] ; omega)), tl_l_w12_0 hB (by (repeat' (first | exact bk_F0 | (refine bk_F1 ?_ ?_))) <;> (simp only [sx_ev, sx_evl, gs_ofNat, gs_neg] ; omega)) (by (repeat' (first | exact gs_t0 | (refine gs_t1 ?_ ?_))) <;> (simp only [sx_ev, sx_evl, gs_ofNat, gs_neg] ; omega))⟩
    · exact ⟨sx_σi [(1042, (.ofNat 0, [(1041, .ofNat 1)]))] σ, gl_p_of rfl hp0, gl_hi rfl, gs_none rfl, gs_none rfl, gs_none rfl, gs_none rfl, (gs_some rfl).trans (by (simp only [sx_ev, sx_evl, gs_ofNat, gs_neg] ; omega)), tl_l_w12_1 hB (by (repeat' (first | exact bk_F0 | (refine bk_F1 ?_ ?_))) <;> (simp only [sx_ev, sx_evl, gs_ofNat, gs_neg] ; omega)) (by (repeat' (first | exact gs_t0 | (refine gs_t1 ?_ ?_))) <;> (simp only [sx_ev, sx_evl, gs_ofNat, gs_neg] ; omega))⟩
    · exact ⟨sx_σi [(1042, (.ofNat 0, [(1041, .ofNat 2)]))] σ, gl_p_of rfl hp0, gl_hi rfl, gs_none rfl, gs_none rfl, gs_none rfl, gs_none rfl, (gs_some rfl).trans (by (simp only [sx_ev, sx_evl, gs_ofNat, gs_neg] ; omega)), tl_l_w12_2 hB (by (repeat' (first | exact bk_F0 | (refine bk_F1 ?_ ?_))) <;> (simp only [sx_ev, sx_evl, gs_ofNat, gs_neg] ; omega)) (by (repeat' (first | exact gs_t0 | (refine gs_t1 ?_ ?_))) <;> (simp only [sx_ev, sx_evl, gs_ofNat, gs_neg] ; omega))⟩
    · exact ⟨sx_σi [(1042, (.ofNat 0, [(1041, .ofNat 3)]))] σ, gl_p_of rfl hp0, gl_hi rfl, gs_none rfl, gs_none rfl, gs_none rfl, gs_none rfl, (gs_some rfl).trans (by (simp only [sx_ev, sx_evl, gs_ofNat, gs_neg] ; omega)), tl_l_w12_3 hB (by (repeat' (first | exact bk_F0 | (refine bk_F1 ?_ ?_))) <;> (simp only [sx_ev, sx_evl, gs_ofNat, gs_neg] ; omega)) (by (repeat' (first | exact gs_t0 | (refine gs_t1 ?_ ?_))) <;> (simp only [sx_ev, sx_evl, gs_ofNat, gs_neg] ; omega))⟩
    · exact ⟨sx_σi [(1042, (.ofNat 0, [(1041, .ofNat 4)]))] σ, gl_p_of rfl hp0, gl_hi rfl, gs_none rfl, gs_none rfl, gs_none rfl, gs_none rfl, (gs_some rfl).trans (by (simp only [sx_ev, sx_evl, gs_ofNat, gs_neg] ; omega)), tl_l_w12_4 hB (by (repeat' (first | exact bk_F0 | (refine bk_F1 ?_ ?_))) <;> (simp only [sx_ev, sx_evl, gs_ofNat, gs_neg] ; omega)) (by (repeat' (first | exact gs_t0 | (refine gs_t1 ?_ ?_))) <;> (simp only [sx_ev, sx_evl, gs_ofNat, gs_neg] ; omega))⟩
    · exact ⟨sx_σi [(1042, (.ofNat 0, [(1041, .ofNat 5)]))] σ, gl_p_of rfl hp0, gl_hi rfl, gs_none rfl, gs_none rfl, gs_none rfl, gs_none rfl, (gs_some rfl).trans (by (simp only [sx_ev, sx_evl, gs_ofNat, gs_neg] ; omega)), tl_l_w12_5 hB (by (repeat' (first | exact bk_F0 | (refine bk_F1 ?_ ?_))) <;> (simp only [sx_ev, sx_evl, gs_ofNat, gs_neg] ; omega)) (by (repeat' (first | exact gs_t0 | (refine gs_t1 ?_ ?_))) <;> (simp only [sx_ev, sx_evl, gs_ofNat, gs_neg] ; omega))⟩
    · exact ⟨sx_σi [(1042, (.ofNat 0, [(1041, .ofNat 6)]))] σ, gl_p_of rfl hp0, gl_hi rfl, gs_none rfl, gs_none rfl, gs_none rfl, gs_none rfl, (gs_some rfl).trans (by (simp only [sx_ev, sx_evl, gs_ofNat, gs_neg] ; omega)), tl_l_w12_6 hB (by (repeat' (first | exact bk_F0 | (refine bk_F1 ?_ ?_))) <;> (simp only [sx_ev, sx_evl, gs_ofNat, gs_neg] ; omega)) (by (repeat' (first | exact gs_t0 | (refine gs_t1 ?_ ?_))) <;> (simp only [sx_ev, sx_evl, gs_ofNat, gs_neg] ; omega))⟩
  · rcases Int.lt_trichotomy (σ 1041) q.h with ho | ho | ho
    · rw [if_pos (show σ 1041 < q.h by omega)] at hv
      have hv := Option.some.inj hv
      exact ⟨sx_σi [(1042, (.ofNat 0, [(1025, .ofNat 1)]))] σ, gl_p_of rfl hp0, gl_hi rfl, gs_none rfl, gs_none rfl, gs_none rfl, gs_none rfl, (gs_some rfl).trans (by (simp only [sx_ev, sx_evl, gs_ofNat, gs_neg] ; omega)), tl_l_w13_m hB (by (repeat' (first | exact bk_F0 | (refine bk_F1 ?_ ?_))) <;> (simp only [sx_ev, sx_evl, gs_ofNat, gs_neg] ; omega)) (by (repeat' (first | exact gs_t0 | (refine gs_t1 ?_ ?_))) <;> (simp only [sx_ev, sx_evl, gs_ofNat, gs_neg] ; omega))⟩
    · rw [if_neg (show ¬ (σ 1041 < q.h) by omega)] at hv
      cases hv
    · rw [if_neg (show ¬ (σ 1041 < q.h) by omega)] at hv
      cases hv
  · rcases Int.lt_trichotomy (σ 1041) q.h with ho | ho | ho
    · rw [if_neg (show ¬ (σ 1041 ≥ q.h) by omega)] at hv
      cases hv
    · rw [if_pos (show σ 1041 ≥ q.h by omega)] at hv
      have hv := Option.some.inj hv
      exact ⟨sx_σi [(1042, (.ofNat 0, [(1025, .ofNat 1)]))] σ, gl_p_of rfl hp0, gl_hi rfl, gs_none rfl, gs_none rfl, gs_none rfl, gs_none rfl, (gs_some rfl).trans (by (simp only [sx_ev, sx_evl, gs_ofNat, gs_neg] ; omega)), tl_l_w14_e hB (by (repeat' (first | exact bk_F0 | (refine bk_F1 ?_ ?_))) <;> (simp only [sx_ev, sx_evl, gs_ofNat, gs_neg] ; omega)) (by (repeat' (first | exact gs_t0 | (refine gs_t1 ?_ ?_))) <;> (simp only [sx_ev, sx_evl, gs_ofNat, gs_neg] ; omega))⟩
    · rw [if_pos (show σ 1041 ≥ q.h by omega)] at hv
      have hv := Option.some.inj hv
      exact ⟨sx_σi [(1042, (.ofNat 0, [(1025, .ofNat 1)]))] σ, gl_p_of rfl hp0, gl_hi rfl, gs_none rfl, gs_none rfl, gs_none rfl, gs_none rfl, (gs_some rfl).trans (by (simp only [sx_ev, sx_evl, gs_ofNat, gs_neg] ; omega)), tl_l_w14_p hB (by (repeat' (first | exact bk_F0 | (refine bk_F1 ?_ ?_))) <;> (simp only [sx_ev, sx_evl, gs_ofNat, gs_neg] ; omega)) (by (repeat' (first | exact gs_t0 | (refine gs_t1 ?_ ?_))) <;> (simp only [sx_ev, sx_evl, gs_ofNat, gs_neg] ; omega))⟩
  · rcases Int.lt_trichotomy (σ 1041) q.h with ho | ho | ho
    · rw [if_pos (show σ 1041 ≠ q.h by omega)] at hv
      have hv := Option.some.inj hv
      exact ⟨sx_σi [(1042, (.ofNat 0, [(1025, .ofNat 1)]))] σ, gl_p_of rfl hp0, gl_hi rfl, gs_none rfl, gs_none rfl, gs_none rfl, gs_none rfl, (gs_some rfl).trans (by (simp only [sx_ev, sx_evl, gs_ofNat, gs_neg] ; omega)), tl_l_w15_m hB (by (repeat' (first | exact bk_F0 | (refine bk_F1 ?_ ?_))) <;> (simp only [sx_ev, sx_evl, gs_ofNat, gs_neg] ; omega)) (by (repeat' (first | exact gs_t0 | (refine gs_t1 ?_ ?_))) <;> (simp only [sx_ev, sx_evl, gs_ofNat, gs_neg] ; omega))⟩
    · rw [if_neg (show ¬ (σ 1041 ≠ q.h) by omega)] at hv
      cases hv
    · rw [if_pos (show σ 1041 ≠ q.h by omega)] at hv
      have hv := Option.some.inj hv
      exact ⟨sx_σi [(1042, (.ofNat 0, [(1025, .ofNat 1)]))] σ, gl_p_of rfl hp0, gl_hi rfl, gs_none rfl, gs_none rfl, gs_none rfl, gs_none rfl, (gs_some rfl).trans (by (simp only [sx_ev, sx_evl, gs_ofNat, gs_neg] ; omega)), tl_l_w15_p hB (by (repeat' (first | exact bk_F0 | (refine bk_F1 ?_ ?_))) <;> (simp only [sx_ev, sx_evl, gs_ofNat, gs_neg] ; omega)) (by (repeat' (first | exact gs_t0 | (refine gs_t1 ?_ ?_))) <;> (simp only [sx_ev, sx_evl, gs_ofNat, gs_neg] ; omega))⟩
theorem gl_w1x {q : gs_P} {B : Nat → List (Nat × sx_C)} {z : Nat → Nat} {σ : Nat → Int} (hB : gw B) (hq : gs_ok q) (hp : gl_p q σ) (hr : -100 ≤ σ 1041 ∧ σ 1041 ≤ 100) (hv : gs_act q.B (σ 1041) q.h = none) : ∃ σ' : Nat → Int, gl_p q σ' ∧ (∀ u, u < 1000 → σ' u = σ u) ∧ σ' 1038 = σ 1038 ∧ σ' 1039 = σ 1039 ∧ σ' 1040 = σ 1040 ∧ σ' 1041 = σ 1041 ∧ gx_H 40 sm_L_law 18 726 0 0 z σ (bk_pt 249 (gl_L11 1) [] B 300) σ' (bk_pt 249 (gl_L11 2) [] B 300) := by
  have hp0 := hp
  obtain ⟨p1, p2, p3, p4, p5, p6, p7, p8, p9, p10, p11⟩ := hp
  obtain ⟨⟨q1, q2, q3, q4, q5, q6, q7, q8, q9, q10, q11, q12⟩, ⟨q13, q14, q15⟩, ⟨q16, q17, q18⟩, ⟨q19, q20⟩, q21, q22⟩ := hq
  obtain ⟨v1, v2⟩ := hr
  have hA : q.B = 0 ∨ q.B = 1 ∨ q.B = 2 ∨ q.B = 3 ∨ q.B = 4 ∨ q.B = 5 := by omega
  rcases hA with hA | hA | hA | hA | hA | hA <;> rw [hA] at p10 hv <;> simp only [gs_act] at hv
  · cases hv
  · cases hv
  · cases hv
  · rcases Int.lt_trichotomy (σ 1041) q.h with ho | ho | ho
    · rw [if_pos (show σ 1041 < q.h by omega)] at hv
      cases hv
    · rw [if_neg (show ¬ (σ 1041 < q.h) by omega)] at hv
      exact ⟨sx_σi [] σ, gl_p_of rfl hp0, gl_hi rfl, gs_none rfl, gs_none rfl, gs_none rfl, gs_none rfl, tl_l_w13_e hB (by (repeat' (first | exact bk_F0 | (refine bk_F1 ?_ ?_))) <;> (simp only [sx_ev, sx_evl, gs_ofNat, gs_neg] ; omega)) (by (repeat' (first | exact gs_t0 | (refine gs_t1 ?_ ?_))) <;> (simp only [sx_ev, sx_evl, gs_ofNat, gs_neg] ; omega))⟩
    · rw [if_neg (show ¬ (σ 1041 < q.h) by omega)] at hv
      exact ⟨sx_σi [] σ, gl_p_of rfl hp0, gl_hi rfl, gs_none rfl, gs_none rfl, gs_none rfl, gs_none rfl, tl_l_w13_p hB (by (repeat' (first | exact bk_F0 | (refine bk_F1 ?_ ?_))) <;> (simp only [sx_ev, sx_evl, gs_ofNat, gs_neg] ; omega)) (by (repeat' (first | exact gs_t0 | (refine gs_t1 ?_ ?_))) <;> (simp only [sx_ev, sx_evl, gs_ofNat, gs_neg] ; omega))⟩
  · rcases Int.lt_trichotomy (σ 1041) q.h with ho | ho | ho
    · rw [if_neg (show ¬ (σ 1041 ≥ q.h) by omega)] at hv
      exact ⟨sx_σi [] σ, gl_p_of rfl hp0, gl_hi rfl, gs_none rfl, gs_none rfl, gs_none rfl, gs_none rfl, tl_l_w14_m hB (by (repeat' (first | exact bk_F0 | (refine bk_F1 ?_ ?_))) <;> (simp only [sx_ev, sx_evl, gs_ofNat, gs_neg] ; omega)) (by (repeat' (first | exact gs_t0 | (refine gs_t1 ?_ ?_))) <;> (simp only [sx_ev, sx_evl, gs_ofNat, gs_neg] ; omega))⟩
    · rw [if_pos (show σ 1041 ≥ q.h by omega)] at hv
      cases hv
    · rw [if_pos (show σ 1041 ≥ q.h by omega)] at hv
      cases hv
  · rcases Int.lt_trichotomy (σ 1041) q.h with ho | ho | ho
    · rw [if_pos (show σ 1041 ≠ q.h by omega)] at hv
      cases hv
    · rw [if_neg (show ¬ (σ 1041 ≠ q.h) by omega)] at hv
      exact ⟨sx_σi [] σ, gl_p_of rfl hp0, gl_hi rfl, gs_none rfl, gs_none rfl, gs_none rfl, gs_none rfl, tl_l_w15_e hB (by (repeat' (first | exact bk_F0 | (refine bk_F1 ?_ ?_))) <;> (simp only [sx_ev, sx_evl, gs_ofNat, gs_neg] ; omega)) (by (repeat' (first | exact gs_t0 | (refine gs_t1 ?_ ?_))) <;> (simp only [sx_ev, sx_evl, gs_ofNat, gs_neg] ; omega))⟩
    · rw [if_pos (show σ 1041 ≠ q.h by omega)] at hv
      cases hv
theorem gl_n0 {q : gs_P} {B : Nat → List (Nat × sx_C)} {z : Nat → Nat} {σ : Nat → Int} (hB : gw B) (hq : gs_ok q) (hp : gl_p q σ) (hg : 0 ≤ σ 1038 ∧ σ 1038 < q.m) : ∃ σ' : Nat → Int, gl_p q σ' ∧ (∀ u, u < 1000 → σ' u = σ u) ∧ σ' 1038 = σ 1038 ∧ σ' 1039 = σ 1039 ∧ σ' 1040 = σ 1040 ∧ σ' 1041 = σ 1041 ∧ σ' 1042 = σ 1042 ∧ gx_H 40 sm_L_law 18 726 0 0 z σ (bk_pt 270 (gl_L14 0) [] B 300) σ' (bk_pt 277 (gl_L14 0) [gn_c 4000, gn_c 0, sx_id 0] B 300) := by
  have hp0 := hp
  obtain ⟨p1, p2, p3, p4, p5, p6, p7, p8, p9, p10, p11⟩ := hp
  obtain ⟨⟨q1, q2, q3, q4, q5, q6, q7, q8, q9, q10, q11, q12⟩, ⟨q13, q14, q15⟩, ⟨q16, q17, q18⟩, ⟨q19, q20⟩, q21, q22⟩ := hq
  obtain ⟨g1, g2⟩ := hg
  exact ⟨sx_σi [] σ, gl_p_of rfl hp0, gl_hi rfl, gs_none rfl, gs_none rfl, gs_none rfl, gs_none rfl, gs_none rfl, tl_l_n0 hB (by (repeat' (first | exact bk_F0 | (refine bk_F1 ?_ ?_))) <;> (simp only [sx_ev, sx_evl, gs_ofNat, gs_neg] ; omega)) (by (repeat' (first | exact gs_t0 | (refine gs_t1 ?_ ?_))) <;> (simp only [sx_ev, sx_evl, gs_ofNat, gs_neg] ; omega))⟩
theorem gl_f0 {q : gs_P} {B : Nat → List (Nat × sx_C)} {z : Nat → Nat} {σ : Nat → Int} (hB : gw B) (hq : gs_ok q) (hp : gl_p q σ) (hg : σ 1038 = q.m) : ∃ σ' : Nat → Int, gl_p q σ' ∧ (∀ u, u < 1000 → σ' u = σ u) ∧ σ' 1038 = σ 1038 ∧ σ' 1039 = σ 1039 ∧ σ' 1040 = σ 1040 ∧ σ' 1041 = σ 1041 ∧ gx_H 40 sm_L_law 18 726 0 0 z σ (bk_pt 270 (gl_L14 0) [] B 300) σ' (bk_pt 249 (gl_L11 1) [] B 300) := by
  have hp0 := hp
  obtain ⟨p1, p2, p3, p4, p5, p6, p7, p8, p9, p10, p11⟩ := hp
  obtain ⟨⟨q1, q2, q3, q4, q5, q6, q7, q8, q9, q10, q11, q12⟩, ⟨q13, q14, q15⟩, ⟨q16, q17, q18⟩, ⟨q19, q20⟩, q21, q22⟩ := hq
  exact ⟨sx_σi [] σ, gl_p_of rfl hp0, gl_hi rfl, gs_none rfl, gs_none rfl, gs_none rfl, gs_none rfl, tl_l_f0 hB (by (repeat' (first | exact bk_F0 | (refine bk_F1 ?_ ?_))) <;> (simp only [sx_ev, sx_evl, gs_ofNat, gs_neg] ; omega)) (by (repeat' (first | exact gs_t0 | (refine gs_t1 ?_ ?_))) <;> (simp only [sx_ev, sx_evl, gs_ofNat, gs_neg] ; omega))⟩
theorem gl_i0 {q : gs_P} {B : Nat → List (Nat × sx_C)} {z : Nat → Nat} {σ : Nat → Int} (hB : gw B) (hq : gs_ok q) (hp : gl_p q σ) : ∃ σ' : Nat → Int, gl_p q σ' ∧ (∀ u, u < 1000 → σ' u = σ u) ∧ σ' 1038 = σ 1038 ∧ σ' 1039 = σ 1039 ∧ σ' 1040 = σ 1040 ∧ σ' 1041 = σ 1041 ∧ σ' 1042 = σ 1042 ∧ gx_H 40 sm_L_law 18 726 0 0 z σ (bk_pt 278 (gl_L14 0) [gn_c 1] B 300) σ' (bk_pt 282 (gl_L14 0) [.inr (.inl (.ofNat 0, [(1042, .ofNat 1)])), sx_id 0] B 300) := by
  have hp0 := hp
  obtain ⟨p1, p2, p3, p4, p5, p6, p7, p8, p9, p10, p11⟩ := hp
  obtain ⟨⟨q1, q2, q3, q4, q5, q6, q7, q8, q9, q10, q11, q12⟩, ⟨q13, q14, q15⟩, ⟨q16, q17, q18⟩, ⟨q19, q20⟩, q21, q22⟩ := hq
  exact ⟨sx_σi [] σ, gl_p_of rfl hp0, gl_hi rfl, gs_none rfl, gs_none rfl, gs_none rfl, gs_none rfl, gs_none rfl, tl_l_i0 hB (by (repeat' (first | exact bk_F0 | (refine bk_F1 ?_ ?_))) <;> (simp only [sx_ev, sx_evl, gs_ofNat, gs_neg] ; omega)) (by (repeat' (first | exact gs_t0 | (refine gs_t1 ?_ ?_))) <;> (simp only [sx_ev, sx_evl, gs_ofNat, gs_neg] ; omega))⟩
theorem gl_g0 {q : gs_P} {B : Nat → List (Nat × sx_C)} {z : Nat → Nat} {σ : Nat → Int} (hB : gw B) (hq : gs_ok q) (hp : gl_p q σ) (hg : 0 ≤ σ 1038 ∧ σ 1038 < q.m) : ∃ σ' : Nat → Int, gl_p q σ' ∧ (∀ u, u < 1000 → σ' u = σ u) ∧ σ' 1039 = σ 1039 ∧ σ' 1040 = σ 1040 ∧ σ' 1041 = σ 1041 ∧ σ' 1038 = σ 1038 + 1 ∧ gx_H 40 sm_L_law 18 726 0 0 z σ (bk_pt 283 (gl_L14 0) [gn_c 1] B 300) σ' (bk_pt 249 (gl_L11 1) [] B 300) := by
  have hp0 := hp
  obtain ⟨p1, p2, p3, p4, p5, p6, p7, p8, p9, p10, p11⟩ := hp
  obtain ⟨⟨q1, q2, q3, q4, q5, q6, q7, q8, q9, q10, q11, q12⟩, ⟨q13, q14, q15⟩, ⟨q16, q17, q18⟩, ⟨q19, q20⟩, q21, q22⟩ := hq
  obtain ⟨g1, g2⟩ := hg
  exact ⟨sx_σi [(1038, (.ofNat 1, [(1038, .ofNat 1)]))] σ, gl_p_of rfl hp0, gl_hi rfl, gs_none rfl, gs_none rfl, gs_none rfl, (gs_some rfl).trans (by (simp only [sx_ev, sx_evl, gs_ofNat, gs_neg] ; omega)), tl_l_g0 hB (by (repeat' (first | exact bk_F0 | (refine bk_F1 ?_ ?_))) <;> (simp only [sx_ev, sx_evl, gs_ofNat, gs_neg] ; omega)) (by (repeat' (first | exact gs_t0 | (refine gs_t1 ?_ ?_))) <;> (simp only [sx_ev, sx_evl, gs_ofNat, gs_neg] ; omega))⟩
theorem gl_n1 {q : gs_P} {B : Nat → List (Nat × sx_C)} {z : Nat → Nat} {σ : Nat → Int} (hB : gw B) (hq : gs_ok q) (hp : gl_p q σ) (hg : 0 ≤ σ 1038 ∧ σ 1038 < q.m) : ∃ σ' : Nat → Int, gl_p q σ' ∧ (∀ u, u < 1000 → σ' u = σ u) ∧ σ' 1038 = σ 1038 ∧ σ' 1039 = σ 1039 ∧ σ' 1040 = σ 1040 ∧ σ' 1041 = σ 1041 ∧ σ' 1042 = σ 1042 ∧ gx_H 40 sm_L_law 18 726 0 0 z σ (bk_pt 270 (gl_L14 1) [] B 300) σ' (bk_pt 277 (gl_L14 1) [gn_c 4000, gn_c 0, sx_id 0] B 300) := by
  have hp0 := hp
  obtain ⟨p1, p2, p3, p4, p5, p6, p7, p8, p9, p10, p11⟩ := hp
  obtain ⟨⟨q1, q2, q3, q4, q5, q6, q7, q8, q9, q10, q11, q12⟩, ⟨q13, q14, q15⟩, ⟨q16, q17, q18⟩, ⟨q19, q20⟩, q21, q22⟩ := hq
  obtain ⟨g1, g2⟩ := hg
  exact ⟨sx_σi [] σ, gl_p_of rfl hp0, gl_hi rfl, gs_none rfl, gs_none rfl, gs_none rfl, gs_none rfl, gs_none rfl, tl_l_n1 hB (by (repeat' (first | exact bk_F0 | (refine bk_F1 ?_ ?_))) <;> (simp only [sx_ev, sx_evl, gs_ofNat, gs_neg] ; omega)) (by (repeat' (first | exact gs_t0 | (refine gs_t1 ?_ ?_))) <;> (simp only [sx_ev, sx_evl, gs_ofNat, gs_neg] ; omega))⟩
theorem gl_f1 {q : gs_P} {B : Nat → List (Nat × sx_C)} {z : Nat → Nat} {σ : Nat → Int} (hB : gw B) (hq : gs_ok q) (hp : gl_p q σ) (hg : σ 1038 = q.m) : ∃ σ' : Nat → Int, gl_p q σ' ∧ (∀ u, u < 1000 → σ' u = σ u) ∧ σ' 1038 = σ 1038 ∧ σ' 1039 = σ 1039 ∧ σ' 1040 = σ 1040 ∧ σ' 1041 = σ 1041 ∧ gx_H 40 sm_L_law 18 726 0 0 z σ (bk_pt 270 (gl_L14 1) [] B 300) σ' (bk_pt 249 (gl_L11 2) [] B 300) := by
  have hp0 := hp
  obtain ⟨p1, p2, p3, p4, p5, p6, p7, p8, p9, p10, p11⟩ := hp
  obtain ⟨⟨q1, q2, q3, q4, q5, q6, q7, q8, q9, q10, q11, q12⟩, ⟨q13, q14, q15⟩, ⟨q16, q17, q18⟩, ⟨q19, q20⟩, q21, q22⟩ := hq
  exact ⟨sx_σi [] σ, gl_p_of rfl hp0, gl_hi rfl, gs_none rfl, gs_none rfl, gs_none rfl, gs_none rfl, tl_l_f1 hB (by (repeat' (first | exact bk_F0 | (refine bk_F1 ?_ ?_))) <;> (simp only [sx_ev, sx_evl, gs_ofNat, gs_neg] ; omega)) (by (repeat' (first | exact gs_t0 | (refine gs_t1 ?_ ?_))) <;> (simp only [sx_ev, sx_evl, gs_ofNat, gs_neg] ; omega))⟩
theorem gl_i1 {q : gs_P} {B : Nat → List (Nat × sx_C)} {z : Nat → Nat} {σ : Nat → Int} (hB : gw B) (hq : gs_ok q) (hp : gl_p q σ) : ∃ σ' : Nat → Int, gl_p q σ' ∧ (∀ u, u < 1000 → σ' u = σ u) ∧ σ' 1038 = σ 1038 ∧ σ' 1039 = σ 1039 ∧ σ' 1040 = σ 1040 ∧ σ' 1041 = σ 1041 ∧ σ' 1042 = σ 1042 ∧ gx_H 40 sm_L_law 18 726 0 0 z σ (bk_pt 278 (gl_L14 1) [gn_c 1] B 300) σ' (bk_pt 282 (gl_L14 1) [.inr (.inl (.ofNat 0, [(1042, .ofNat 1)])), sx_id 0] B 300) := by
  have hp0 := hp
  obtain ⟨p1, p2, p3, p4, p5, p6, p7, p8, p9, p10, p11⟩ := hp
  obtain ⟨⟨q1, q2, q3, q4, q5, q6, q7, q8, q9, q10, q11, q12⟩, ⟨q13, q14, q15⟩, ⟨q16, q17, q18⟩, ⟨q19, q20⟩, q21, q22⟩ := hq
  exact ⟨sx_σi [] σ, gl_p_of rfl hp0, gl_hi rfl, gs_none rfl, gs_none rfl, gs_none rfl, gs_none rfl, gs_none rfl, tl_l_i1 hB (by (repeat' (first | exact bk_F0 | (refine bk_F1 ?_ ?_))) <;> (simp only [sx_ev, sx_evl, gs_ofNat, gs_neg] ; omega)) (by (repeat' (first | exact gs_t0 | (refine gs_t1 ?_ ?_))) <;> (simp only [sx_ev, sx_evl, gs_ofNat, gs_neg] ; omega))⟩
theorem gl_g1 {q : gs_P} {B : Nat → List (Nat × sx_C)} {z : Nat → Nat} {σ : Nat → Int} (hB : gw B) (hq : gs_ok q) (hp : gl_p q σ) (hg : 0 ≤ σ 1038 ∧ σ 1038 < q.m) : ∃ σ' : Nat → Int, gl_p q σ' ∧ (∀ u, u < 1000 → σ' u = σ u) ∧ σ' 1039 = σ 1039 ∧ σ' 1040 = σ 1040 ∧ σ' 1041 = σ 1041 ∧ σ' 1038 = σ 1038 + 1 ∧ gx_H 40 sm_L_law 18 726 0 0 z σ (bk_pt 283 (gl_L14 1) [gn_c 1] B 300) σ' (bk_pt 249 (gl_L11 2) [] B 300) := by
  have hp0 := hp
  obtain ⟨p1, p2, p3, p4, p5, p6, p7, p8, p9, p10, p11⟩ := hp
  obtain ⟨⟨q1, q2, q3, q4, q5, q6, q7, q8, q9, q10, q11, q12⟩, ⟨q13, q14, q15⟩, ⟨q16, q17, q18⟩, ⟨q19, q20⟩, q21, q22⟩ := hq
  obtain ⟨g1, g2⟩ := hg
  exact ⟨sx_σi [(1038, (.ofNat 1, [(1038, .ofNat 1)]))] σ, gl_p_of rfl hp0, gl_hi rfl, gs_none rfl, gs_none rfl, gs_none rfl, (gs_some rfl).trans (by (simp only [sx_ev, sx_evl, gs_ofNat, gs_neg] ; omega)), tl_l_g1 hB (by (repeat' (first | exact bk_F0 | (refine bk_F1 ?_ ?_))) <;> (simp only [sx_ev, sx_evl, gs_ofNat, gs_neg] ; omega)) (by (repeat' (first | exact gs_t0 | (refine gs_t1 ?_ ?_))) <;> (simp only [sx_ev, sx_evl, gs_ofNat, gs_neg] ; omega))⟩
theorem gl_yn {q : gs_P} {B : Nat → List (Nat × sx_C)} {z : Nat → Nat} {σ : Nat → Int} (hB : gw B) (hq : gs_ok q) (hp : gl_p q σ) (hy : -6 ≤ σ 1040 ∧ σ 1040 ≤ 6) : ∃ σ' : Nat → Int, gl_p q σ' ∧ (∀ u, u < 1000 → σ' u = σ u) ∧ σ' 1038 = σ 1038 ∧ σ' 1039 = σ 1039 ∧ σ' 1040 = σ 1040 + q.t ∧ gx_H 40 sm_L_law 18 726 0 0 z σ (bk_pt 289 gl_L10 [] B 300) σ' (bk_pt 233 gl_L10 [] B 300) := by
  have hp0 := hp
  obtain ⟨p1, p2, p3, p4, p5, p6, p7, p8, p9, p10, p11⟩ := hp
  obtain ⟨⟨q1, q2, q3, q4, q5, q6, q7, q8, q9, q10, q11, q12⟩, ⟨q13, q14, q15⟩, ⟨q16, q17, q18⟩, ⟨q19, q20⟩, q21, q22⟩ := hq
  obtain ⟨y1, y2⟩ := hy
  exact ⟨sx_σi [(1040, (.ofNat 0, [(1034, .ofNat 1), (1040, .ofNat 1)]))] σ, gl_p_of rfl hp0, gl_hi rfl, gs_none rfl, gs_none rfl, (gs_some rfl).trans (by (simp only [sx_ev, sx_evl, gs_ofNat, gs_neg] ; omega)), tl_l_yn hB (by (repeat' (first | exact bk_F0 | (refine bk_F1 ?_ ?_))) <;> (simp only [sx_ev, sx_evl, gs_ofNat, gs_neg] ; omega)) (by (repeat' (first | exact gs_t0 | (refine gs_t1 ?_ ?_))) <;> (simp only [sx_ev, sx_evl, gs_ofNat, gs_neg] ; omega))⟩
theorem gl_xn {q : gs_P} {B : Nat → List (Nat × sx_C)} {z : Nat → Nat} {σ : Nat → Int} (hB : gw B) (hq : gs_ok q) (hp : gl_p q σ) (hx : -6 ≤ σ 1039 ∧ σ 1039 ≤ 6) : ∃ σ' : Nat → Int, gl_p q σ' ∧ (∀ u, u < 1000 → σ' u = σ u) ∧ σ' 1038 = σ 1038 ∧ σ' 1039 = σ 1039 + q.y ∧ gx_H 40 sm_L_law 18 726 0 0 z σ (bk_pt 294 gl_L10 [] B 300) σ' (bk_pt 222 gl_L9 [] B 300) := by
  have hp0 := hp
  obtain ⟨p1, p2, p3, p4, p5, p6, p7, p8, p9, p10, p11⟩ := hp
  obtain ⟨⟨q1, q2, q3, q4, q5, q6, q7, q8, q9, q10, q11, q12⟩, ⟨q13, q14, q15⟩, ⟨q16, q17, q18⟩, ⟨q19, q20⟩, q21, q22⟩ := hq
  obtain ⟨x1, x2⟩ := hx
  exact ⟨sx_σi [(1039, (.ofNat 0, [(1033, .ofNat 1), (1039, .ofNat 1)]))] σ, gl_p_of rfl hp0, gl_hi rfl, gs_none rfl, (gs_some rfl).trans (by (simp only [sx_ev, sx_evl, gs_ofNat, gs_neg] ; omega)), tl_l_xn hB (by (repeat' (first | exact bk_F0 | (refine bk_F1 ?_ ?_))) <;> (simp only [sx_ev, sx_evl, gs_ofNat, gs_neg] ; omega)) (by (repeat' (first | exact gs_t0 | (refine gs_t1 ?_ ?_))) <;> (simp only [sx_ev, sx_evl, gs_ofNat, gs_neg] ; omega))⟩
theorem gl_e1 {q : gs_P} {B : Nat → List (Nat × sx_C)} {z : Nat → Nat} {σ : Nat → Int} (hB : gw B) (hq : gs_ok q) (hp : gl_p q σ) : ∃ σ' : Nat → Int, gl_p q σ' ∧ (∀ u, u < 1000 → σ' u = σ u) ∧ gx_H 40 sm_L_law 18 726 0 0 z σ (bk_pt 299 gl_L9 [] B 300) σ' (bk_pt 302 [(1, sx_id 0)] [gn_c 4000, gn_c 0, sx_id 0] B 300) := by
  have hp0 := hp
  obtain ⟨p1, p2, p3, p4, p5, p6, p7, p8, p9, p10, p11⟩ := hp
  obtain ⟨⟨q1, q2, q3, q4, q5, q6, q7, q8, q9, q10, q11, q12⟩, ⟨q13, q14, q15⟩, ⟨q16, q17, q18⟩, ⟨q19, q20⟩, q21, q22⟩ := hq
  exact ⟨sx_σi [] σ, gl_p_of rfl hp0, gl_hi rfl, tl_l_e1 hB (by (repeat' (first | exact bk_F0 | (refine bk_F1 ?_ ?_))) <;> (simp only [sx_ev, sx_evl, gs_ofNat, gs_neg] ; omega)) (by (repeat' (first | exact gs_t0 | (refine gs_t1 ?_ ?_))) <;> (simp only [sx_ev, sx_evl, gs_ofNat, gs_neg] ; omega))⟩
theorem gl_e2 {q : gs_P} {B : Nat → List (Nat × sx_C)} {z : Nat → Nat} {σ : Nat → Int} (hB : gw B) (hq : gs_ok q) (hp : gl_p q σ) : ∃ σ' : Nat → Int, gl_p q σ' ∧ (∀ u, u < 1000 → σ' u = σ u) ∧ gx_H 40 sm_L_law 18 726 0 0 z σ (bk_pt 303 [(1, sx_id 0)] [gn_c 0] B 300) σ' (bk_pt 307 [(1, sx_id 0)] [gn_c 4000, gn_c 0, sx_id 0] B 300) := by
  have hp0 := hp
  obtain ⟨p1, p2, p3, p4, p5, p6, p7, p8, p9, p10, p11⟩ := hp
  obtain ⟨⟨q1, q2, q3, q4, q5, q6, q7, q8, q9, q10, q11, q12⟩, ⟨q13, q14, q15⟩, ⟨q16, q17, q18⟩, ⟨q19, q20⟩, q21, q22⟩ := hq
  exact ⟨sx_σi [] σ, gl_p_of rfl hp0, gl_hi rfl, tl_l_e2 hB (by (repeat' (first | exact bk_F0 | (refine bk_F1 ?_ ?_))) <;> (simp only [sx_ev, sx_evl, gs_ofNat, gs_neg] ; omega)) (by (repeat' (first | exact gs_t0 | (refine gs_t1 ?_ ?_))) <;> (simp only [sx_ev, sx_evl, gs_ofNat, gs_neg] ; omega))⟩
theorem gl_e3 {q : gs_P} {B : Nat → List (Nat × sx_C)} {z : Nat → Nat} {σ : Nat → Int} (hB : gw B) (hq : gs_ok q) (hp : gl_p q σ) : ∃ σ' : Nat → Int, gl_p q σ' ∧ (∀ u, u < 1000 → σ' u = σ u) ∧ gx_H 40 sm_L_law 18 726 0 0 z σ (bk_pt 308 [(1, sx_id 0)] [gn_c (-2)] B 300) σ' (bk_pt 313 [(1, sx_id 0)] [gn_c 0, gn_c 0, sx_id 0] B 300) := by
  have hp0 := hp
  obtain ⟨p1, p2, p3, p4, p5, p6, p7, p8, p9, p10, p11⟩ := hp
  obtain ⟨⟨q1, q2, q3, q4, q5, q6, q7, q8, q9, q10, q11, q12⟩, ⟨q13, q14, q15⟩, ⟨q16, q17, q18⟩, ⟨q19, q20⟩, q21, q22⟩ := hq
  exact ⟨sx_σi [] σ, gl_p_of rfl hp0, gl_hi rfl, tl_l_e3 hB (by (repeat' (first | exact bk_F0 | (refine bk_F1 ?_ ?_))) <;> (simp only [sx_ev, sx_evl, gs_ofNat, gs_neg] ; omega)) (by (repeat' (first | exact gs_t0 | (refine gs_t1 ?_ ?_))) <;> (simp only [sx_ev, sx_evl, gs_ofNat, gs_neg] ; omega))⟩
theorem gl_e4 {q : gs_P} {B : Nat → List (Nat × sx_C)} {z : Nat → Nat} {σ : Nat → Int} (hB : gw B) (hq : gs_ok q) (hp : gl_p q σ) : ∃ σ' : Nat → Int, gl_p q σ' ∧ (∀ u, u < 1000 → σ' u = σ u) ∧ gx_H 40 sm_L_law 18 726 0 0 z σ (bk_pt 314 [(1, sx_id 0)] [gn_c 0] B 300) σ' (bk_pt 318 [] [gn_c 1] B 300) := by
  have hp0 := hp
  obtain ⟨p1, p2, p3, p4, p5, p6, p7, p8, p9, p10, p11⟩ := hp
  obtain ⟨⟨q1, q2, q3, q4, q5, q6, q7, q8, q9, q10, q11, q12⟩, ⟨q13, q14, q15⟩, ⟨q16, q17, q18⟩, ⟨q19, q20⟩, q21, q22⟩ := hq
  exact ⟨sx_σi [] σ, gl_p_of rfl hp0, gl_hi rfl, tl_l_e4 hB (by (repeat' (first | exact bk_F0 | (refine bk_F1 ?_ ?_))) <;> (simp only [sx_ev, sx_evl, gs_ofNat, gs_neg] ; omega)) (by (repeat' (first | exact gs_t0 | (refine gs_t1 ?_ ?_))) <;> (simp only [sx_ev, sx_evl, gs_ofNat, gs_neg] ; omega))⟩
