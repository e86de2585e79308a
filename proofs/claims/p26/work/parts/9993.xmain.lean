/-! the law's rows 46 to 318, for any argument -/
section XM
variable {ns : Nat} {f : Nat → Int32}
theorem x_s {o u v : Nat} {σ : Nat → Int} (h : sx_lk (jθ o) u = some (ju v)) : sx_σi (jθ o) σ u = σ v := (gs_some h).trans (sx_ev1' σ v)
theorem x_k {o u n : Nat} {σ : Nat → Int} (h : sx_lk (jθ o) u = some (kc n)) : sx_σi (jθ o) σ u = (n : Int) := (gs_some h).trans (by
  show Int.ofNat n + 0 = (n : Int)
  rw [gs_ofNat]
  omega)
theorem x_abs (x : Int) : (if x < 0 then -x else x) = cond (decide (x < 0)) (-x) x := by
  by_cases h : x < 0
  · rw [if_pos h, decide_eq_true h]
    rfl
  · rw [if_neg h, decide_eq_false h]
    rfl
theorem x_q1 : n_lo ns f 12 6 = Int.ofNat (n_lo ns f 12 6).toNat := by
  have h : 0 ≤ n_lo ns f 12 6 ∧ n_lo ns f 12 6 ≤ 5 := n_lo6
  rw [gs_ofNat]
  omega
theorem x_q2 : n_lo ns f 13 6 = Int.ofNat (n_lo ns f 13 6).toNat := by
  have h : 0 ≤ n_lo ns f 13 6 ∧ n_lo ns f 13 6 ≤ 5 := n_lo6
  rw [gs_ofNat]
  omega
theorem x_bl {o1 n : Nat} (h : o1 = 40 + n) : xbl o1 = List.replicate (Nat.sub (cond (nz n) 60 40) (Nat.add 40 n)) (kc 32) ∧ (xbl o1).length + o1 = (if n = 0 then 40 else (if o1 ≤ 60 then 60 else o1)) := by
  subst h
  unfold xbl
  cases n with
  | zero => exact ⟨rfl, rfl⟩
  | succ k =>
    have e1 : Nat.beq (40 + (k + 1)) 40 = false := by
      cases e : Nat.beq (40 + (k + 1)) 40 with
      | false => rfl
      | true => exact absurd (Nat.eq_of_beq_eq_true e) (by omega)
    rw [e1, show nz (k + 1) = true from rfl]
    refine ⟨rfl, ?_⟩
    rw [List.length_replicate, if_neg (by omega)]
    show 60 - (40 + (k + 1)) + (40 + (k + 1)) = _
    split <;> omega
/-- the text as it is read -/
theorem x_G (ns : Nat) (f : Nat → Int32) : ∃ o, (o = 40 ∨ o = 60) ∧ (n_txt ns f).length = o ∧ pG (xsg ns f).a (xsg ns f).b (xsg ns f).c (xsg ns f).d (xsg ns f).e (xsg ns f).f (xsg ns f).g (xsg ns f).h (xq ns f).A (xq ns f).B (!decide (n_mo ns f < 10)) (sx_σi (jθ o) (n_στ ns f (n_txt ns f))) := by
  obtain ⟨q1, hq1⟩ : ∃ q, (n_lo ns f 12 6).toNat = q := ⟨_, rfl⟩
  obtain ⟨q2, hq2⟩ : ∃ q, (n_lo ns f 13 6).toNat = q := ⟨_, rfl⟩
  have h61 : q1 < 6 := by rw [← hq1]; exact (xq_ok ns f).2.2.2.1.1
  have h62 : q2 < 6 := by rw [← hq2]; exact (xq_ok ns f).2.2.2.1.2
  have k1 := x_q1 (ns := ns) (f := f)
  have k2 := x_q2 (ns := ns) (f := f)
  rw [hq1] at k1
  rw [hq2] at k2
  have eA : (xq ns f).A = q1 := hq1
  have eB : (xq ns f).B = q2 := hq2
  rw [eA, eB]
  obtain ⟨a, ha⟩ : ∃ x, (xsg ns f).a = x := ⟨_, rfl⟩
  obtain ⟨b, hb⟩ : ∃ x, (xsg ns f).b = x := ⟨_, rfl⟩
  obtain ⟨c, hc⟩ : ∃ x, (xsg ns f).c = x := ⟨_, rfl⟩
  obtain ⟨d, hd⟩ : ∃ x, (xsg ns f).d = x := ⟨_, rfl⟩
  obtain ⟨e, he⟩ : ∃ x, (xsg ns f).e = x := ⟨_, rfl⟩
  obtain ⟨h1, hh1⟩ : ∃ x, (xsg ns f).f = x := ⟨_, rfl⟩
  obtain ⟨g, hg⟩ : ∃ x, (xsg ns f).g = x := ⟨_, rfl⟩
  obtain ⟨h, hh⟩ : ∃ x, (xsg ns f).h = x := ⟨_, rfl⟩
  obtain ⟨s, hs⟩ : ∃ x, decide (n_mo ns f < 10) = x := ⟨_, rfl⟩
  rw [ha, hb, hc, hd, he, hh1, hg, hh, hs]
  obtain ⟨o1, hl, r1, r2, hT⟩ := x_txt (ns := ns) (f := f) (a := a) (b := b) (c := c) (d := d) (e := e) (h1 := h1) (g := g) (h := h) ha hb hc hd he hh1 hg hh hs k1 k2 h61 h62
  have hn : o1 = 40 + Nat.add (Nat.add (Nat.add (k3 a b c) (k3 d e h1)) (k2' g h)) (Nat.add (Nat.add (bN (wwide q1)) (bN (wwide q2))) (bN (!s))) := by
    have l1 := ln_x a b c
    have l2 := ln_y d e h1
    have l3 := ln_a h61
    have l4 := ln_a h62
    have l5 := ln_o 4 g
    have l6 := ln_o 5 h
    have l7 := ln_mo s
    have l8 : k2' g h = bN g + bN h := rfl
    rw [← hl]
    unfold xtext
    simp only [List.length_append, List.length_cons, List.length_nil, l1, l2, l3, l4, l5, l6, l7]
    show _ = 40 + (((k3 a b c + k3 d e h1) + k2' g h) + ((bN (wwide q1) + bN (wwide q2)) + bN (!s)))
    omega
  obtain ⟨n, hn9⟩ : ∃ n, Nat.add (Nat.add (Nat.add (k3 a b c) (k3 d e h1)) (k2' g h)) (Nat.add (Nat.add (bN (wwide q1)) (bN (wwide q2))) (bN (!s))) = n := ⟨_, rfl⟩
  rw [hn9] at hn
  obtain ⟨hb1, hb2⟩ := x_bl hn
  have hL : (n_txt ns f).length = if n = 0 then 40 else 60 := by
    rw [hT, List.length_append, hl]
    rw [show o1 + (xbl o1).length = (xbl o1).length + o1 by omega, hb2, if_pos (show o1 ≤ 60 by omega)]
  obtain ⟨o, ho⟩ : ∃ o, (n_txt ns f).length = o := ⟨_, rfl⟩
  have ho4 : o = 40 ∨ o = 60 := by
    rw [← ho, hL]
    split
    · exact .inl rfl
    · exact .inr rfl
  refine ⟨o, ho4, ho, ?_⟩
  obtain ⟨σ, hσ⟩ : ∃ σ, σ = n_στ ns f (n_txt ns f) := ⟨_, rfl⟩
  rw [← hσ]
  have lo : ∀ i, i < 220 → σ i = n_σ ns f i := fun i hi => by rw [hσ]; exact n_στ_lo (.inl hi)
  have e37 : sx_σi (jθ o) σ 37 = n_m ns f 0 := (x_s rfl).trans ((lo 20 (by decide)).trans rfl)
  have e11 : sx_σi (jθ o) σ 11 = n_m ns f 1 := (x_s rfl).trans ((lo 21 (by decide)).trans rfl)
  have e12 : sx_σi (jθ o) σ 12 = n_by ns f := (x_s rfl).trans ((lo 26 (by decide)).trans rfl)
  have e32 : sx_σi (jθ o) σ 32 = n_m ns f 2 := (x_s rfl).trans ((lo 22 (by decide)).trans rfl)
  have e33 : sx_σi (jθ o) σ 33 = n_m ns f 3 := (x_s rfl).trans ((lo 23 (by decide)).trans rfl)
  have e34 : sx_σi (jθ o) σ 34 = n_ot ns f := (x_s rfl).trans ((lo 27 (by decide)).trans rfl)
  have e35 : sx_σi (jθ o) σ 35 = n_m ns f 4 := (x_s rfl).trans ((lo 24 (by decide)).trans rfl)
  have e36 : sx_σi (jθ o) σ 36 = n_m ns f 5 := (x_s rfl).trans ((lo 25 (by decide)).trans rfl)
  have e44 : sx_σi (jθ o) σ 44 = n_mo ns f / 10 := (x_s rfl).trans ((lo 8 (by decide)).trans rfl)
  have e45 : sx_σi (jθ o) σ 45 = n_mo ns f % 10 := (x_s rfl).trans ((lo 9 (by decide)).trans rfl)
  have ab : ∀ {u v : Nat} {x : Int} {t : Bool}, σ u = (if x < 0 then -x else x) → sx_σi (jθ o) σ v = x → decide (x < 0) = t → σ u = cond t (-(sx_σi (jθ o) σ v)) (sx_σi (jθ o) σ v) := fun {u v x t} p1 p2 p3 => by
    rw [p1, p2, ← p3]
    exact x_abs x
  have a0 := ab (u := 0) ((lo 0 (by decide)).trans rfl) e37 ha
  have a1 := ab (u := 1) ((lo 1 (by decide)).trans rfl) e11 hb
  have a6 := ab (u := 6) ((lo 6 (by decide)).trans rfl) e12 hc
  have a2 := ab (u := 2) ((lo 2 (by decide)).trans rfl) e32 hd
  have a3 := ab (u := 3) ((lo 3 (by decide)).trans rfl) e33 he
  have a7 := ab (u := 7) ((lo 7 (by decide)).trans rfl) e34 hh1
  have a4 := ab (u := 4) ((lo 4 (by decide)).trans rfl) e35 hg
  have a5 := ab (u := 5) ((lo 5 (by decide)).trans rfl) e36 hh
  have hE : pE σ (sx_σi (jθ o) σ) (n_txt ns f) (wtext a b c d e h1 g h q1 q2 (!s)) := by
    rw [hT, x_text, hb1]
    unfold wtext wmost
    have hn9' : Nat.add 40 (Nat.add (Nat.add (Nat.add (k3 a b c) (k3 d e h1)) (k2' g h)) (Nat.add (Nat.add (bN (wwide q1)) (bN (wwide q2))) (bN (!s)))) = Nat.add 40 n := by rw [hn9]
    rw [hn9', hn9]
    exact pE_app (pE_app (pE_rf rfl) (pE_span a0 a1 a6)) (pE_app (pE_act q1) (pE_app (pE_span a2 a3 a7) (pE_app (pE_rf rfl) (pE_app (pE_act q2) (pE_app (pE_app (pE_rf rfl) (pE_app (pE_op a4) (pE_app (pE_rf rfl) (pE_app (pE_op a5) (pE_rf rfl))))) (pE_app (pE_rf rfl) (pE_app (pE_rf rfl) (pE_app (pE_rf rfl) (pE_app (pE_most ((lo 8 (by decide)).trans (e44.symm ▸ rfl)) ((lo 9 (by decide)).trans (e45.symm ▸ rfl)) s) (pE_bl _))))))))))
  refine ⟨pE_P hE (fun j x hx => ?_), ?_, ?_⟩
  · have hj : j < o := by
      rw [← ho]
      exact (List.getElem?_eq_some_iff.mp hx).1
    rw [Nat.zero_add, jθ_lo ho4 (by omega) (by omega) (by omega), hσ]
    exact x_byte (fun y hy => f_txt_low _ _ _ y hy) hx (by omega)
  · rw [hn9]
    have e50 : sx_σi (jθ o) σ 50 = (o : Int) := x_k rfl
    rw [e50, ← ho, hL]
    cases n with
    | zero => rfl
    | succ k => rfl
  · have m0 : -6 ≤ n_m ns f 0 ∧ n_m ns f 0 ≤ 6 := n_m_rg
    have m1 : -6 ≤ n_m ns f 1 ∧ n_m ns f 1 ≤ 6 := n_m_rg
    have m2 : -6 ≤ n_m ns f 2 ∧ n_m ns f 2 ≤ 6 := n_m_rg
    have m3 : -6 ≤ n_m ns f 3 ∧ n_m ns f 3 ≤ 6 := n_m_rg
    have m4 : -6 ≤ n_m ns f 4 ∧ n_m ns f 4 ≤ 6 := n_m_rg
    have m5 : -6 ≤ n_m ns f 5 ∧ n_m ns f 5 ≤ 6 := n_m_rg
    have m6 : -3 ≤ n_by ns f ∧ n_by ns f ≤ 3 ∧ n_by ns f ≠ 0 := n_by_rg
    have m7 : -2 ≤ n_ot ns f ∧ n_ot ns f ≤ 2 ∧ n_ot ns f ≠ 0 := n_ot_rg
    have m8 : 2 ≤ n_mo ns f ∧ n_mo ns f ≤ 41 := n_mo_rg
    have b6 : ∀ {u : Nat} {x : Int} {t : Bool}, sx_σi (jθ o) σ u = x → -6 ≤ x ∧ x ≤ 6 → decide (x < 0) = t → (pB6 u t).2.1 ≤ sx_σi (jθ o) σ (pB6 u t).1 ∧ sx_σi (jθ o) σ (pB6 u t).1 ≤ (pB6 u t).2.2 := fun {u x t} p1 p2 p3 => by
      subst p3
      show (cond (decide (x < 0)) (.negSucc 5) (.ofNat 0) : Int) ≤ sx_σi (jθ o) σ u ∧ sx_σi (jθ o) σ u ≤ (cond (decide (x < 0)) (.negSucc 0) (.ofNat 6) : Int)
      rw [p1]
      by_cases h9 : x < 0
      · rw [decide_eq_true h9, cond_true, cond_true, gs_neg, gs_neg]
        omega
      · rw [decide_eq_false h9, cond_false, cond_false, gs_ofNat, gs_ofNat]
        omega
    have b3 : (pB3 12 c).2.1 ≤ sx_σi (jθ o) σ (pB3 12 c).1 ∧ sx_σi (jθ o) σ (pB3 12 c).1 ≤ (pB3 12 c).2.2 := by
      have hc : decide (n_by ns f < 0) = c := hc
      subst hc
      show (cond (decide (n_by ns f < 0)) (.negSucc 2) (.ofNat 1) : Int) ≤ sx_σi (jθ o) σ 12 ∧ sx_σi (jθ o) σ 12 ≤ (cond (decide (n_by ns f < 0)) (.negSucc 0) (.ofNat 3) : Int)
      rw [e12]
      by_cases h9 : n_by ns f < 0
      · rw [decide_eq_true h9, cond_true, cond_true, gs_neg, gs_neg]
        omega
      · rw [decide_eq_false h9, cond_false, cond_false, gs_ofNat, gs_ofNat]
        omega
    have b2 : (pB2 34 h1).2.1 ≤ sx_σi (jθ o) σ (pB2 34 h1).1 ∧ sx_σi (jθ o) σ (pB2 34 h1).1 ≤ (pB2 34 h1).2.2 := by
      have hc : decide (n_ot ns f < 0) = h1 := hh1
      subst hc
      show (cond (decide (n_ot ns f < 0)) (.negSucc 1) (.ofNat 1) : Int) ≤ sx_σi (jθ o) σ 34 ∧ sx_σi (jθ o) σ 34 ≤ (cond (decide (n_ot ns f < 0)) (.negSucc 0) (.ofNat 2) : Int)
      rw [e34]
      by_cases h9 : n_ot ns f < 0
      · rw [decide_eq_true h9, cond_true, cond_true, gs_neg, gs_neg]
        omega
      · rw [decide_eq_false h9, cond_false, cond_false, gs_ofNat, gs_ofNat]
        omega
    refine pB1 (b6 e37 m0 ha) (pB1 (b6 e11 m1 hb) (pB1 b3 (pB1 (b6 e32 m2 hd) (pB1 (b6 e33 m3 he) (pB1 b2 (pB1 (b6 e35 m4 hg) (pB1 (b6 e36 m5 hh) ?_)))))))
    show sx_okB (sx_σi (jθ o) σ) (cond (!s) [(44, .ofNat 1, .ofNat 4), (45, .ofNat 0, .ofNat 9)] [(45, .ofNat 2, .ofNat 9)])
    subst hs
    by_cases h9 : n_mo ns f < 10
    · rw [decide_eq_true h9]
      exact pB1 (by show (2 : Int) ≤ sx_σi (jθ o) σ 45 ∧ sx_σi (jθ o) σ 45 ≤ 9; rw [e45]; omega) pB0
    · rw [decide_eq_false h9]
      exact pB1 (by show (1 : Int) ≤ sx_σi (jθ o) σ 44 ∧ sx_σi (jθ o) σ 44 ≤ 4; rw [e44]; omega) (pB1 (by show (0 : Int) ≤ sx_σi (jθ o) σ 45 ∧ sx_σi (jθ o) σ 45 ≤ 9; rw [e45]; omega) pB0)
/-- THE LAW, FROM ROW 46 ON -/
theorem x_main (hns : ns < 2 ^ 31) (z : Nat → Nat) : xE ns f sm_L_law 18 726 34269 513982 z (n_στ ns f (n_txt ns f)) j_46 := by
  obtain ⟨o, ho, hl, hG⟩ := x_G ns f
  have h210 := n_210 (f := f) hns z
  rw [hl] at h210
  obtain ⟨σ, hσ⟩ : ∃ σ, σ = n_στ ns f (n_txt ns f) := ⟨_, rfl⟩
  rw [← hσ] at h210 hG ⊢
  have lo : ∀ i, i < 220 → σ i = n_σ ns f i := fun i hi => by rw [hσ]; exact n_στ_lo (.inl hi)
  obtain ⟨τ, hτ⟩ : ∃ τ, τ = sx_σi (jθ o) σ := ⟨_, rfl⟩
  have g1 := j_go ho (z := z) (σ := σ)
  rw [← hτ] at g1 hG
  have e50 : τ 50 = (o : Int) := by rw [hτ]; exact x_k rfl
  have hA : (xq ns f).A < 6 := (xq_ok ns f).2.2.2.1.1
  have hB : (xq ns f).B < 6 := (xq_ok ns f).2.2.2.1.2
  obtain ⟨σ2, k1, k2, k3, k4, g2⟩ := pg_law (z := z) hA hB hG (by rw [e50]; rcases ho with rfl | rfl <;> decide)
  have v : ∀ {u v : Nat}, pfree u = true → sx_lk (jθ o) u = some (ju v) → v < 220 → σ2 u = n_σ ns f v := fun {u v} p1 p2 p3 => by
    rw [k1 u p1, hτ, x_s p2]
    exact lo v p3
  have c : ∀ {u n : Nat}, pfree u = true → sx_lk (jθ o) u = some (kc n) → σ2 u = (n : Int) := fun {u n} p1 p2 => by
    rw [k1 u p1, hτ]
    exact x_k p2
  have e44 : τ 44 = n_mo ns f / 10 := by rw [hτ]; exact (x_s rfl).trans ((lo 8 (by decide)).trans rfl)
  have e45 : τ 45 = n_mo ns f % 10 := by rw [hτ]; exact (x_s rfl).trans ((lo 9 (by decide)).trans rfl)
  have m8 : 2 ≤ n_mo ns f ∧ n_mo ns f ≤ 41 := n_mo_rg
  have hmo : sx_ev τ (emost (!decide (n_mo ns f < 10))) = n_mo ns f := by
    by_cases h9 : n_mo ns f < 10
    · rw [decide_eq_true h9]
      show sx_ev τ (.ofNat 0, [(45, .ofNat 1)]) = _
      simp only [sx_ev, sx_evl, gs_ofNat, e45]
      omega
    · rw [decide_eq_false h9]
      show sx_ev τ (.ofNat 0, [(44, .ofNat 10), (45, .ofNat 1)]) = _
      simp only [sx_ev, sx_evl, gs_ofNat, e44, e45]
      omega
  have hf : gs_fix (xq ns f) σ2 := ⟨(v rfl rfl (by decide)).trans rfl, (v rfl rfl (by decide)).trans rfl, (v rfl rfl (by decide)).trans rfl, (v rfl rfl (by decide)).trans rfl, (v rfl rfl (by decide)).trans rfl, (v rfl rfl (by decide)).trans rfl, (v rfl rfl (by decide)).trans rfl, (v rfl rfl (by decide)).trans rfl, k4.trans hmo, k2.trans (pcode_op hA), k3.trans (pcode_op hB)⟩
  have hA9 : ((xq ns f).A : Int) = n_lo ns f 12 6 := x_q1.symm
  have hB9 : ((xq ns f).B : Int) = n_lo ns f 13 6 := x_q2.symm
  have hp : gl_p (xq ns f) σ2 := ⟨(v rfl rfl (by decide)).trans rfl, (v rfl rfl (by decide)).trans rfl, (v rfl rfl (by decide)).trans rfl, (v rfl rfl (by decide)).trans rfl, (v rfl rfl (by decide)).trans rfl, (v rfl rfl (by decide)).trans rfl, (v rfl rfl (by decide)).trans rfl, (v rfl rfl (by decide)).trans rfl, (v (v := 28) rfl rfl (by decide)).trans hA9.symm, (v (v := 29) rfl rfl (by decide)).trans hB9.symm, (v rfl rfl (by decide)).trans rfl⟩
  have c19 : σ2 19 = ((0 : Nat) : Int) := c rfl rfl
  have c20 : σ2 20 = ((0 : Nat) : Int) := c rfl rfl
  have hc : go_cnt 0 σ2 := by
    unfold go_cnt
    rw [c19, c20]
    decide
  obtain ⟨σ3, B3, g3⟩ := lp_all (z := z) (x_H ns f) hp hf hc
  have g4 := gx_H.tr (Nat.zero_le _) (Nat.le_refl 0) (gx_H.tr (Nat.le_refl 0) (Nat.le_refl 0) g1 g2) (g3.mono (Nat.zero_le _) (Nat.le_refl _) (Nat.le_refl _) (Nat.le_refl _) (Nat.le_refl _))
  have t1 := xE.end (ns := ns) (f := f) (g4.mono (dk' := 34269) (ds' := 513982) (Nat.le_refl _) (Nat.le_refl _) (Nat.le_refl _) (by decide) (by decide))
  exact xE.seg (dk1 := 0) (ds1 := 0) h210 t1
end XM
