/-! places of the search that the law looks at, and how go comes from one to the next -/
def gr_L : List (Nat × sx_V) := [(0, .inr (.inr (some (.inl 1)))), (1, .inl (.inl (.ofNat 4000, [])))]
/-- from the entry of go, in this world, under what agrees with τ below 1000, go comes to T after n - n0 steps at most -/
def gr_Rd (q : gs_P) (z : Nat → Nat) (τ : Nat → Int) (B : Nat → List (Nat × sx_C)) (n0 n : Nat) (A : (Nat → Int) → Prop) (T : sx_Pt) : Prop := n0 ≤ n ∧ ∀ σ : Nat → Int, (∀ u, u < 1000 → σ u = τ u) → ∃ σ' : Nat → Int, gs_fix q σ' ∧ gs_cnt n σ' ∧ A σ' ∧ gx_G 40 sm_X8_go 16 650 (9 * (n - n0)) (135 * (n - n0)) z σ (bk_pt 0 gr_L [] B 300) σ' T
def gr_End (z : Nat → Nat) (τ : Nat → Int) (B : Nat → List (Nat × sx_C)) (n0 n : Nat) (T : sx_Pt) : Prop := n0 ≤ n ∧ ∀ σ : Nat → Int, (∀ u, u < 1000 → σ u = τ u) → ∃ σ' : Nat → Int, gx_G 40 sm_X8_go 16 650 (9 * (n - n0)) (135 * (n - n0)) z σ (bk_pt 0 gr_L [] B 300) σ' T
section GR
variable {q : gs_P} {a b c d e f g h : Bool} {LB : List (Nat × sx_C)} {z : Nat → Nat} {τ : Nat → Int} {B : Nat → List (Nat × sx_C)} {n0 n : Nat}
theorem gr_Rd.ext {A A' : (Nat → Int) → Prop} {T T' : sx_Pt} (hr : gr_Rd q z τ B n0 n A T) (w : Nat) (hw : 1 ≤ w) (hs : ∀ σ : Nat → Int, gs_fix q σ → gs_cnt n σ → A σ → ∃ σ' : Nat → Int, gs_fix q σ' ∧ gs_cnt ((n : Int) + (w : Int)) σ' ∧ A' σ' ∧ gx_G 40 sm_X8_go 14 560 9 135 z σ T σ' T') : gr_Rd q z τ B n0 (n + w) A' T' := by
  have h0 := hr.1
  refine ⟨by omega, fun σ hσ => ?_⟩
  obtain ⟨σ1, f1, c1, a1, g1⟩ := hr.2 σ hσ
  obtain ⟨σ2, f2, c2, a2, g2⟩ := hs σ1 f1 c1 a1
  have e9 : ((n + w : Nat) : Int) = (n : Int) + (w : Int) := by omega
  refine ⟨σ2, f2, ?_, a2, ?_⟩
  · rw [e9]
    exact c2
  · exact (gx_G.tr (Nat.le_refl 40) (Nat.le_refl 40) g1 (g2.mono (Nat.le_refl _) (by decide) (by decide) (Nat.le_refl _) (Nat.le_refl _))).mono (Nat.le_refl _) (Nat.le_refl _) (Nat.le_refl _) (by omega) (by omega)
theorem gr_Rd.fin {A : (Nat → Int) → Prop} {T T' : sx_Pt} (hr : gr_Rd q z τ B n0 n A T) (hs : ∀ σ : Nat → Int, gs_fix q σ → gs_cnt n σ → A σ → ∃ σ' : Nat → Int, gx_G 40 sm_X8_go 14 560 9 135 z σ T σ' T') : gr_End z τ B n0 (n + 1) T' := by
  have h0 := hr.1
  refine ⟨by omega, fun σ hσ => ?_⟩
  obtain ⟨σ1, f1, c1, a1, g1⟩ := hr.2 σ hσ
  obtain ⟨σ2, g2⟩ := hs σ1 f1 c1 a1
  exact ⟨σ2, (gx_G.tr (Nat.le_refl 40) (Nat.le_refl 40) g1 (g2.mono (Nat.le_refl _) (by decide) (by decide) (Nat.le_refl _) (Nat.le_refl _))).mono (Nat.le_refl _) (Nat.le_refl _) (Nat.le_refl _) (by omega) (by omega)⟩
theorem gr_Rd.imp {A A' : (Nat → Int) → Prop} {T : sx_Pt} (hr : gr_Rd q z τ B n0 n A T) (hi : ∀ σ, A σ → A' σ) : gr_Rd q z τ B n0 n A' T := by
  refine ⟨hr.1, fun σ hσ => ?_⟩
  obtain ⟨σ1, f1, c1, a1, g1⟩ := hr.2 σ hσ
  exact ⟨σ1, f1, c1, hi _ a1, g1⟩
theorem gr_Rd.mono {A : (Nat → Int) → Prop} {T : sx_Pt} (hr : gr_Rd q z τ B n0 n A T) {n' : Nat} (hn : n ≤ n') (hn' : n' ≤ 3800) : gr_Rd q z τ B n0 n' A T := by
  have h0 := hr.1
  refine ⟨by omega, fun σ hσ => ?_⟩
  obtain ⟨σ1, f1, ⟨c1, c2, c3, c4, c5, c6, c7, c8, c9⟩, a1, g1⟩ := hr.2 σ hσ
  exact ⟨σ1, f1, ⟨by omega, by omega, by omega, by omega, by omega, by omega, by omega, by omega, by omega⟩, a1, g1.mono (Nat.le_refl _) (Nat.le_refl _) (Nat.le_refl _) (by omega) (by omega)⟩
theorem gr_End.mono {T : sx_Pt} (hr : gr_End z τ B n0 n T) {n' : Nat} (hn : n ≤ n') : gr_End z τ B n0 n' T := by
  have h0 := hr.1
  refine ⟨by omega, fun σ hσ => ?_⟩
  obtain ⟨σ1, g1⟩ := hr.2 σ hσ
  exact ⟨σ1, g1.mono (Nat.le_refl _) (Nat.le_refl _) (Nat.le_refl _) (by omega) (by omega)⟩
end GR
/-- what is said of x and the limit, of y, of v -/
def gr_x (i x : Int) (σ : Nat → Int) : Prop := σ 16 = i ∧ σ 10 = x
def gr_y (q : gs_P) (i x y : Int) (k : Bool) (σ : Nat → Int) : Prop := gr_x i x σ ∧ (k = true → σ 13 = y) ∧ (k = false → y = q.d)
def gr_v (q : gs_P) (i x y : Int) (k : Bool) (v : Int) (m : Bool) (σ : Nat → Int) : Prop := gr_y q i x y k σ ∧ (m = true → σ 14 = v) ∧ (m = false → v = y)
/-- signs -/
abbrev gr_S : Type := Bool × Bool × Bool × Bool × Bool × Bool × Bool × Bool
def gr_S.a (s : gr_S) : Bool := s.1
def gr_S.b (s : gr_S) : Bool := s.2.1
def gr_S.c (s : gr_S) : Bool := s.2.2.1
def gr_S.d (s : gr_S) : Bool := s.2.2.2.1
def gr_S.e (s : gr_S) : Bool := s.2.2.2.2.1
def gr_S.f (s : gr_S) : Bool := s.2.2.2.2.2.1
def gr_S.g (s : gr_S) : Bool := s.2.2.2.2.2.2.1
def gr_S.h (s : gr_S) : Bool := s.2.2.2.2.2.2.2
def grk_ok (q : gs_P) (s : gr_S) (LB : List (Nat × sx_C)) : Prop := bk_lb LB = true ∧ gs_ok q ∧ gs_bits q s.a s.b s.c s.d s.e s.f s.g s.h
noncomputable def pQB (s : gr_S) (LB : List (Nat × sx_C)) : sx_Pt := bk_pt 4 xL [] (gp_QB s.a s.b s.c s.d s.e s.f s.g s.h LB) 300
noncomputable def pQX (s : gr_S) (LB : List (Nat × sx_C)) : sx_Pt := bk_pt 4 xL [] (gp_QX s.a s.b s.c s.d s.e s.f s.g s.h LB) 300
noncomputable def pQC (s : gr_S) (k : Bool) (LB : List (Nat × sx_C)) : sx_Pt := bk_pt 4 xL [] (gp_QC s.a s.b s.c s.d s.e s.f s.g s.h k LB) 300
noncomputable def pGV (s : gr_S) (k m j : Bool) (LB : List (Nat × sx_C)) : sx_Pt := bk_pt 4 xL [] (gp_GV s.a s.b s.c s.d s.e s.f s.g s.h k m j LB) 300
noncomputable def pQA (s : gr_S) (k m j : Bool) (LB : List (Nat × sx_C)) : sx_Pt := bk_pt 4 xL [] (gp_QA s.a s.b s.c s.d s.e s.f s.g s.h k m j LB) 300
noncomputable def pQR (s : gr_S) (k m j r : Bool) (LB : List (Nat × sx_C)) : sx_Pt := bk_pt 4 xL [] (gp_QR s.a s.b s.c s.d s.e s.f s.g s.h k m j r LB) 300
noncomputable def pEND (s : gr_S) (LB : List (Nat × sx_C)) : sx_Pt := bk_pt 115 [] [] (gp_END s.a s.b s.c s.d s.e s.f s.g s.h LB) 300
/-- before the test of x, before that of y -/
def gr_X (q : gs_P) (s : gr_S) (LB : List (Nat × sx_C)) (z : Nat → Nat) (τ : Nat → Int) (B : Nat → List (Nat × sx_C)) (n0 n : Nat) (i x : Int) : Prop := (gs_on x q.b q.y → gr_Rd q z τ B n0 n (gr_x i x) (pQB s LB)) ∧ (¬ gs_on x q.b q.y → gr_End z τ B n0 n (pEND s LB))
def gr_Y (q : gs_P) (s : gr_S) (LB : List (Nat × sx_C)) (z : Nat → Nat) (τ : Nat → Int) (B : Nat → List (Nat × sx_C)) (n0 n : Nat) (i x y : Int) (k : Bool) : Prop := (gs_on y q.e q.t → gr_Rd q z τ B n0 n (gr_y q i x y k) (pQC s k LB)) ∧ (¬ gs_on y q.e q.t → gr_Rd q z τ B n0 (n + 6) (gr_x i x) (pQX s LB))
section GR2
variable {q : gs_P} {s : gr_S} {LB : List (Nat × sx_C)} {z : Nat → Nat} {τ : Nat → Int} {B : Nat → List (Nat × sx_C)} {n0 n : Nat} {i x y v : Int} {k m : Bool}
theorem gr_XY (H : grk_ok q s LB) (hr : gr_X q s LB z τ B n0 n i x) (hx : gs_on x q.b q.y) (hn : n + 14 ≤ 3800) : gr_Y q s LB z τ B n0 (n + 8) i x q.d false := by
  have s1 : gr_Rd q z τ B n0 (n + 1) (gr_x i x) (bk_pt 4 xL [] (gp_B2 s.a s.b s.c s.d s.e s.f s.g s.h LB) 300) := (hr.1 hx).ext 1 (by decide) fun σ hf hc hA => by
    obtain ⟨σ', f1, c1, e1, e2, g1⟩ := gs_qb (z := z) H.1 H.2.1 H.2.2 hf hc (by omega)
    exact ⟨σ', f1, c1, ⟨e1.trans hA.1, e2.trans hA.2⟩, g1⟩
  constructor
  · intro hy
    exact (s1.ext 7 (by decide) fun σ hf hc hA => by
      obtain ⟨σ', f1, c1, e1, e2, g1⟩ := gs_b2 (z := z) H.1 H.2.1 H.2.2 hf hc hy (by omega)
      exact ⟨σ', f1, c1, ⟨⟨e1.trans hA.1, e2.trans hA.2⟩, (fun e => nomatch e), fun _ => rfl⟩, g1⟩)
  · intro hy
    exact (s1.ext 13 (by decide) fun σ hf hc hA => by
      obtain ⟨σ', f1, c1, e1, e2, g1⟩ := gs_b2x (z := z) H.1 H.2.1 H.2.2 hf hc hy (by omega)
      exact ⟨σ', f1, c1, ⟨e1.trans hA.1, e2.trans hA.2⟩, g1⟩)
theorem gr_YX (H : grk_ok q s LB) (hr : gr_Y q s LB z τ B n0 n i x y k) (hy : ¬ gs_on y q.e q.t) (hx : -6 ≤ x ∧ x ≤ 6) (hn : n + 7 ≤ 3800) : gr_X q s LB z τ B n0 (n + 7) i (x + q.y) := by
  constructor
  · intro h9
    exact ((hr.2 hy).ext 1 (by decide) fun σ hf hc hA => by
      have hA2 := hA.2
      obtain ⟨σ', f1, c1, e1, e2, g1⟩ := gs_qx (z := z) H.1 H.2.1 H.2.2 hf hc (by rw [hA2]; exact hx) (by rw [hA2]; exact h9) (by omega)
      exact ⟨σ', f1, c1, ⟨e1.trans hA.1, e2.trans (by rw [hA2])⟩, g1⟩)
  · intro h9
    exact (hr.2 hy).fin fun σ hf hc hA => by
      have hA2 := hA.2
      exact gs_qxx (z := z) H.1 H.2.1 H.2.2 hf hc (by rw [hA2]; exact hx) (by rw [hA2]; exact h9)
theorem gr_YA (H : grk_ok q s LB) (hr : gr_Y q s LB z τ B n0 n i x y k) (hy : gs_on y q.e q.t) (hn : n + 1 ≤ 3800) : gr_Rd q z τ B n0 (n + 1) (gr_y q i x y k) (bk_pt 4 xL [] (gp_PA s.a s.b s.c s.d s.e s.f s.g s.h k LB) 300) :=
  (hr.1 hy).ext 1 (by decide) fun σ hf hc hA => by
    obtain ⟨σ', f1, c1, e1, e2, e3, g1⟩ := gs_a1 (z := z) (y := k) H.1 H.2.1 H.2.2 hf hc (by omega)
    exact ⟨σ', f1, c1, ⟨⟨e1.trans hA.1.1, e2.trans hA.1.2⟩, fun e => e3.trans (hA.2.1 e), hA.2.2⟩, g1⟩
/-- behind y: more -/
theorem gr_next (H : grk_ok q s LB) {r : Nat} (hr : gr_Rd q z τ B n0 r (gr_y q i x y k) (bk_pt 4 xL [] (gp_QY s.a s.b s.c s.d s.e s.f s.g s.h k LB) 300)) (hy : -6 ≤ y ∧ y ≤ 6) (hn : r + 7 ≤ 3800) : gr_Y q s LB z τ B n0 (r + 1) i x (y + q.t) true := by
  constructor
  · intro h9
    exact (hr.ext 1 (by decide) fun σ hf hc hA => by
      obtain ⟨σ', f1, c1, e1, e2, e3, g1⟩ := gs_qy (z := z) (y := k) H.1 H.2.1 H.2.2 hf hc hA.2 hy h9 (by omega)
      exact ⟨σ', f1, c1, ⟨⟨e1.trans hA.1.1, e2.trans hA.1.2⟩, fun _ => e3, fun e => nomatch e⟩, g1⟩)
  · intro h9
    exact (hr.ext 7 (by decide) fun σ hf hc hA => by
      obtain ⟨σ', f1, c1, e1, e2, g1⟩ := gs_qyx (z := z) (y := k) H.1 H.2.1 H.2.2 hf hc hA.2 hy h9 (by omega)
      exact ⟨σ', f1, c1, ⟨e1.trans hA.1.1, e2.trans hA.1.2⟩, g1⟩)
theorem gr_YY (H : grk_ok q s LB) (hr : gr_Y q s LB z τ B n0 n i x y k) (hy : gs_on y q.e q.t) (hx : -6 ≤ x ∧ x ≤ 6) (hy1 : -6 ≤ y ∧ y ≤ 6) (hv : gs_act q.A x y = none) (hn : n + 9 ≤ 3800) : gr_Y q s LB z τ B n0 (n + 3) i x (y + q.t) true :=
  gr_next H ((gr_YA H hr hy (by omega)).ext 1 (by decide) fun σ hf hc hA => by
    have hA2 := hA.1.2
    obtain ⟨σ', f1, c1, e1, e2, e3, g1⟩ := gs_a2x (z := z) (y := k) H.1 H.2.1 H.2.2 hf hc (by rw [hA2]; exact hx) hA.2 hy1 (by rw [hA2]; exact hv) (by omega)
    exact ⟨σ', f1, c1, ⟨⟨e1.trans hA.1.1, e2.trans hA.1.2⟩, fun e => e3.trans (hA.2.1 e), hA.2.2⟩, g1⟩) hy1 (by omega)
/-- arithmetic makes a new number, a comparison gives the right one -/
def gr_m (q : gs_P) : Bool := Nat.blt q.A 3
def gr_r (q : gs_P) : Bool := Nat.blt q.B 3
/-- behind the first act: g or h has been given -/
def gr_V (q : gs_P) (s : gr_S) (LB : List (Nat × sx_C)) (z : Nat → Nat) (τ : Nat → Int) (B : Nat → List (Nat × sx_C)) (n0 n : Nat) (i x y : Int) (k : Bool) (v : Int) (j : Bool) : Prop := gr_Rd q z τ B n0 n (gr_v q i x y k v (gr_m q)) (pGV s k (gr_m q) j LB)
/-- the second act is to try the next one -/
def gr_A (q : gs_P) (s : gr_S) (LB : List (Nat × sx_C)) (z : Nat → Nat) (τ : Nat → Int) (B : Nat → List (Nat × sx_C)) (n0 n : Nat) (i x y : Int) (k : Bool) (v : Int) (j : Bool) : Prop := gr_Rd q z τ B n0 n (gr_v q i x y k v (gr_m q)) (pQA s k (gr_m q) j LB)
def gr_g (q : gs_P) (j : Bool) : Int := cond j q.h q.g
theorem gr_YV (H : grk_ok q s LB) (hr : gr_Y q s LB z τ B n0 n i x y k) (hy : gs_on y q.e q.t) (hx : -6 ≤ x ∧ x ≤ 6) (hy1 : -6 ≤ y ∧ y ≤ 6) (hv : gs_act q.A x y = some v) (hn : n + 6 ≤ 3800) : gr_V q s LB z τ B n0 (n + 6) i x y k v false := by
  have s2 : gr_Rd q z τ B n0 (n + 1 + 1) (gr_v q i x y k v (gr_m q)) (bk_pt 4 xL [] (gp_QG s.a s.b s.c s.d s.e s.f s.g s.h k (gr_m q) LB) 300) := (gr_YA H hr hy (by omega)).ext 1 (by decide) fun σ hf hc hA => by
    have hA2 := hA.1.2
    obtain ⟨σ', f1, c1, e1, e2, e3, e4, e5, g1⟩ := gs_a2 (z := z) (y := k) (m := gr_m q) H.1 H.2.1 H.2.2 hf hc rfl (by rw [hA2]; exact hx) hA.2 hy1 (by rw [hA2]; exact hv) (by omega)
    exact ⟨σ', f1, c1, ⟨⟨⟨e1.trans hA.1.1, e2.trans hA.1.2⟩, fun e => e3.trans (hA.2.1 e), hA.2.2⟩, e4, e5⟩, g1⟩
  have s3 : gr_Rd q z τ B n0 (n + 1 + 1 + 1) (gr_v q i x y k v (gr_m q)) (bk_pt 4 xL [] (gp_G0 s.a s.b s.c s.d s.e s.f s.g s.h k (gr_m q) LB) 300) := s2.ext 1 (by decide) fun σ hf hc hA => by
    obtain ⟨σ', f1, c1, e1, e2, e3, e4, g1⟩ := gs_g1 (z := z) (y := k) (v := gr_m q) H.1 H.2.1 H.2.2 hf hc (by omega)
    exact ⟨σ', f1, c1, ⟨⟨⟨e1.trans hA.1.1.1, e2.trans hA.1.1.2⟩, fun e => e3.trans (hA.1.2.1 e), hA.1.2.2⟩, fun e => e4.trans (hA.2.1 e), hA.2.2⟩, g1⟩
  exact s3.ext 3 (by decide) fun σ hf hc hA => by
    obtain ⟨σ', f1, c1, e1, e2, e3, e4, g1⟩ := gs_gb (z := z) (y := k) (v := gr_m q) H.1 H.2.1 H.2.2 hf hc (by omega)
    exact ⟨σ', f1, c1, ⟨⟨⟨e1.trans hA.1.1.1, e2.trans hA.1.1.2⟩, fun e => e3.trans (hA.1.2.1 e), hA.1.2.2⟩, fun e => e4.trans (hA.2.1 e), hA.2.2⟩, g1⟩
variable {j : Bool}
theorem gr_VP (H : grk_ok q s LB) (hr : gr_V q s LB z τ B n0 n i x y k v j) (hn : n + 1 ≤ 3800) : gr_Rd q z τ B n0 (n + 1) (gr_v q i x y k v (gr_m q)) (bk_pt 4 xL [] (gp_PB s.a s.b s.c s.d s.e s.f s.g s.h k (gr_m q) j LB) 300) :=
  hr.ext 1 (by decide) fun σ hf hc hA => by
    obtain ⟨σ', f1, c1, e1, e2, e3, e4, g1⟩ := gs_gv (z := z) (y := k) (v := gr_m q) (j := j) H.1 H.2.1 H.2.2 hf hc (by omega)
    exact ⟨σ', f1, c1, ⟨⟨⟨e1.trans hA.1.1.1, e2.trans hA.1.1.2⟩, fun e => e3.trans (hA.1.2.1 e), hA.1.2.2⟩, fun e => e4.trans (hA.2.1 e), hA.2.2⟩, g1⟩
theorem gr_g_r (hq : gs_ok q) : -6 ≤ gr_g q j ∧ gr_g q j ≤ 6 := by
  obtain ⟨⟨q1, q2, q3, q4, q5, q6, q7, q8, q9, q10, q11, q12⟩, -⟩ := hq
  cases j
  · exact ⟨q9, q10⟩
  · exact ⟨q11, q12⟩
theorem gr_VA (H : grk_ok q s LB) (hr : gr_V q s LB z τ B n0 n i x y k v j) (hv : -100 ≤ v ∧ v ≤ 100) (hw : gs_act q.B v (gr_g q j) = none) (hn : n + 2 ≤ 3800) : gr_A q s LB z τ B n0 (n + 2) i x y k v j :=
  (gr_VP H hr (by omega)).ext 1 (by decide) fun σ hf hc hA => by
    obtain ⟨σ', f1, c1, e1, e2, e3, e4, g1⟩ := gs_pbx (z := z) (y := k) (v := gr_m q) (j := j) H.1 H.2.1 H.2.2 hf hc hA.1.2 hA.2 hv (gr_g_r H.2.1) (fun e => by rw [e]; rfl) (fun e => by rw [e]; rfl) hw (by omega)
    exact ⟨σ', f1, c1, ⟨⟨⟨e1.trans hA.1.1.1, e2.trans hA.1.1.2⟩, fun e => e3.trans (hA.1.2.1 e), hA.1.2.2⟩, fun e => e4.trans (hA.2.1 e), hA.2.2⟩, g1⟩
/-- a result -/
def gr_w (q : gs_P) (i x y : Int) (k : Bool) (v : Int) (j : Bool) (w : Int) (σ : Nat → Int) : Prop := gr_v q i x y k v (gr_m q) σ ∧ (gr_r q = true → σ 15 = w) ∧ (gr_r q = false → w = gr_g q j)
theorem gr_VR {w : Int} (H : grk_ok q s LB) (hr : gr_V q s LB z τ B n0 n i x y k v j) (hv : -100 ≤ v ∧ v ≤ 100) (hw : gs_act q.B v (gr_g q j) = some w) (hn : n + 2 ≤ 3800) : gr_Rd q z τ B n0 (n + 2) (gr_w q i x y k v j w) (pQR s k (gr_m q) j (gr_r q) LB) :=
  (gr_VP H hr (by omega)).ext 1 (by decide) fun σ hf hc hA => by
    obtain ⟨σ', f1, c1, e1, e2, e3, e4, e5, e6, g1⟩ := gs_pb (z := z) (y := k) (v := gr_m q) (j := j) (r := gr_r q) H.1 H.2.1 H.2.2 hf hc hA.1.2 hA.2 hv (gr_g_r H.2.1) (fun e => by rw [e]; rfl) (fun e => by rw [e]; rfl) rfl hw (by omega)
    exact ⟨σ', f1, c1, ⟨⟨⟨⟨e1.trans hA.1.1.1, e2.trans hA.1.1.2⟩, fun e => e3.trans (hA.1.2.1 e), hA.1.2.2⟩, fun e => e4.trans (hA.2.1 e), hA.2.2⟩, e5, e6⟩, g1⟩
theorem gr_AV (H : grk_ok q s LB) (hr : gr_A q s LB z τ B n0 n i x y k v false) (hn : n + 5 ≤ 3800) : gr_V q s LB z τ B n0 (n + 5) i x y k v true :=
  gr_Rd.ext hr 5 (by decide) fun σ hf hc hA => by
    obtain ⟨σ', f1, c1, e1, e2, e3, e4, g1⟩ := gs_h (z := z) (y := k) (v := gr_m q) H.1 H.2.1 H.2.2 hf hc (by omega)
    exact ⟨σ', f1, c1, ⟨⟨⟨e1.trans hA.1.1.1, e2.trans hA.1.1.2⟩, fun e => e3.trans (hA.1.2.1 e), hA.1.2.2⟩, fun e => e4.trans (hA.2.1 e), hA.2.2⟩, g1⟩
theorem gr_AY (H : grk_ok q s LB) (hr : gr_A q s LB z τ B n0 n i x y k v true) (hy1 : -6 ≤ y ∧ y ≤ 6) (hn : n + 11 ≤ 3800) : gr_Y q s LB z τ B n0 (n + 5) i x (y + q.t) true :=
  gr_next H (gr_Rd.ext hr 4 (by decide) fun σ hf hc hA => by
    obtain ⟨σ', f1, c1, e1, e2, e3, g1⟩ := gs_he (z := z) (y := k) (v := gr_m q) H.1 H.2.1 H.2.2 hf hc (by omega)
    exact ⟨σ', f1, c1, ⟨⟨e1.trans hA.1.1.1, e2.trans hA.1.1.2⟩, fun e => e3.trans (hA.1.2.1 e), hA.1.2.2⟩, g1⟩) hy1 (by omega)
end GR2
