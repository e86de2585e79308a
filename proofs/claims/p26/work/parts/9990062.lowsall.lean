/-! rows 46 to 121 of the law -/
theorem sx_Sg.top {tb : List Cond} {M : sx_M} {fr lo dk ds : Nat} {z : Nat → Nat} {σ : Nat → Int} {r nx v : Nat} {b : Int} {L : List (Nat × sx_V)} {S : List sx_V} {w : sx_W} {c1 : sx_Pt} (hv : σ v = b) (h : sx_Sg tb M fr lo dk ds z σ (r, L, .inl (.inl (b, [])) :: S, w, nx) c1) : sx_Sg tb M fr lo dk ds z σ (r, L, .inl (.inl (0, [(v, 1)])) :: S, w, nx) c1 := by
  intro p l e R s m args below meth c Q D cA Fr A ρ k n hfr hlo hk hn C K wl H locs hI hS ls lv st hl hLv hSt
  obtain ⟨y1, st1, rfl, hy1, h2⟩ := sx_RS.int hSt
  have hy1 : y1 = Int32.ofInt (sx_ev σ (0, [(v, 1)])) := hy1
  rw [sx_ev1, hv] at hy1
  subst hy1
  exact h p l e R s m args below meth c Q D cA Fr A ρ k n hfr hlo hk hn C K wl H locs hI hS ls lv _ hl hLv ⟨sx_RVi (sx_RNc b), h2⟩
theorem l_b1 {σ : Nat → Int} {u : Nat} {a b : Int} (h : a ≤ σ u ∧ σ u ≤ b) : sx_okB σ [(u, a, b)] := by
  intro q hq
  rcases List.mem_cons.mp hq with rfl | hq
  · exact h
  · cases hq
theorem l_b0 {σ : Nat → Int} : sx_okB σ [] := fun q hq => (nomatch hq)
theorem l_e0 {σ : Nat → Int} : ∀ q ∈ ([] : List (Nat × sx_I)), sx_ev σ q.2 = σ q.1 := fun q hq => (nomatch hq)
theorem l_e1 {σ : Nat → Int} {u : Nat} {e : sx_I} (h : sx_ev σ e = σ u) : ∀ q ∈ [(u, e)], sx_ev σ q.2 = σ q.1 := by
  intro q hq
  rcases List.mem_cons.mp hq with rfl | hq
  · exact h
  · cases hq
theorem l_ev2 (σ : Nat → Int) (a k : Int) (u : Nat) : sx_ev σ (a, [(u, k)]) = a + k * σ u := by
  show a + (k * σ u + 0) = a + k * σ u
  omega
theorem l_all {ns : Nat} {f : Nat → Int32} {z : Nat → Nat} {σ : Nat → Int} (hns : ns < 2 ^ 31) (h3 : ∀ k, k < 15 → σ (300 + k) = (l_cell ns f k).toInt) (h4 : ∀ k, k < 9 → σ (320 + k) = (l_low (Int32.ofInt (σ (300 + k))) (nI 13)).toInt) (hb : ∀ k, k < 9 → 0 ≤ σ (320 + k) ∧ σ (320 + k) ≤ 12) (h5 : ∀ k, k < 9 → σ (l_n k) = σ (320 + k) - 6)
    (h29 : σ 329 = (l_low (Int32.ofInt (σ 309)) (nI 3)).toInt) (hb29 : 0 ≤ σ 329 ∧ σ 329 ≤ 2) (h31 : σ 331 = (l_low (Int32.ofInt (σ 311)) (nI 2)).toInt) (hb31 : 0 ≤ σ 331 ∧ σ 331 ≤ 1) (h32 : σ 332 = (l_low (Int32.ofInt (σ 312)) (nI 6)).toInt) (h33 : σ 333 = (l_low (Int32.ofInt (σ 313)) (nI 6)).toInt) (h34 : σ 334 = (l_low (Int32.ofInt (σ 314)) (nI 40)).toInt) (hb34 : 0 ≤ σ 334 ∧ σ 334 ≤ 39)
    (h352 : σ 352 = (Int32.ofInt (σ 310) &&& Int32.ofInt 1).toInt) (h353 : σ 353 = (Int32.ofInt (σ 310) &&& Int32.ofInt 2).toInt) (hby : (σ 352 = 0 ∧ σ 26 = 1 + σ 329) ∨ (σ 352 = 1 ∧ σ 26 = -1 - σ 329)) (hot : (σ 353 = 0 ∧ σ 27 = 1 + σ 331) ∨ (σ 353 = 2 ∧ σ 27 = -1 - σ 331)) (h28 : σ 28 = σ 332) (h29b : σ 29 = σ 333) (h30 : σ 30 = 2 + σ 334) :
    sx_SgF ns f wsL_law sm_L_law 18 726 0 0 z σ (l_pt 46 [(0, .inr (.inr (some (.inr 4)))), (1, .inr (.inr (some (.inr 1000)))), (2, .inr (.inr (some (.inl 0)))), (3, .inl (.inl (.ofNat 0, [])))] [] 0) (l_pt 121 [(0, .inr (.inr (some (.inr 4)))), (1, .inr (.inr (some (.inr 1000)))), (2, .inr (.inr (some (.inl 0)))), (3, .inl (.inl (.ofNat 0, [(26, .ofNat 1)]))), (4, .inl (.inl (.ofNat 0, [(27, .ofNat 1)]))), (5, .inl (.inl (.ofNat 0, [(28, .ofNat 1)]))), (6, .inl (.inl (.ofNat 0, [(29, .ofNat 1)]))), (7, .inl (.inl (.ofNat 0, [(30, .ofNat 1)])))] [] 9) := by
  have hBY : sx_Sg wsL_law sm_L_law 18 726 0 0 z σ (l_pt 76 l_t31.2.1 [.inl (.inl (0, [(352, 1)]))] 9) (l_pt 85 l_t31.2.2.2.2.2.1 l_t31.2.2.2.2.2.2.1 9) := by
    rcases hby with ⟨a, b⟩ | ⟨a, b⟩
    · exact sx_Sg.top a (l_sg l_t31_ok (z := z) (σ := σ) (l_b1 hb29) (l_e1 (by rw [l_ev2]; show (1 : Int) + 1 * σ 329 = σ 26; rw [b]; omega)))
    · exact sx_Sg.top a (l_sg l_t32_ok (z := z) (σ := σ) (l_b1 hb29) (l_e1 (by rw [l_ev2]; show (-1 : Int) + (-1) * σ 329 = σ 26; rw [b]; omega)))
  have hOT : sx_Sg wsL_law sm_L_law 18 726 0 0 z σ (l_pt 95 l_t36.2.1 [.inl (.inl (0, [(353, 1)]))] 9) (l_pt 103 l_t36.2.2.2.2.2.1 l_t36.2.2.2.2.2.2.1 9) := by
    rcases hot with ⟨a, b⟩ | ⟨a, b⟩
    · exact sx_Sg.top a (l_sg l_t36_ok (z := z) (σ := σ) (l_b1 hb31) (l_e1 (by rw [l_ev2]; show (1 : Int) + 1 * σ 331 = σ 27; rw [b]; omega)))
    · exact sx_Sg.top a (l_sg l_t37_ok (z := z) (σ := σ) (l_b1 hb31) (l_e1 (by rw [l_ev2]; show (-1 : Int) + (-1) * σ 331 = σ 27; rw [b]; omega)))
  have x0 := sx_Sg.F (ns := ns) (f := f) (l_sg l_t0_ok (z := z) (σ := σ) l_b0 l_e0)
  have x1 := (sx_SgF.cell (ns := ns) (f := f) (r := 55) (kk := 0) (u := 300) (fr := 18) (lo := 726) (z := z) (σ := σ) (L := [(0, .inr (.inr (some (.inr 4)))), (1, .inr (.inr (some (.inr 1000)))), (2, .inr (.inr (some (.inl 0)))), (3, .inl (.inl (.ofNat 0, [])))]) (S0 := [.inl (.inl (.ofNat 0, [])), .inr (.inr (some (.inr 4))), .inl (.inl (.ofNat 6, [])), .inr (.inr (some (.inl 0)))]) (S := [.inl (.inl (.ofNat 6, [])), .inr (.inr (some (.inl 0)))]) (w := sx_mkw 0 [l_m 0]) (nx := 1) rfl rfl (by decide) (by decide) (by decide) hns (by decide) (h3 0 (by decide)))
  have x2 := sx_Sg.F (ns := ns) (f := f) (l_sg l_t1_ok (z := z) (σ := σ) l_b0 l_e0)
  have x3 := sx_Sg.F (ns := ns) (f := f) (sx_Sg.low (r := 57) (n9 := 13) (u := 320) (e := (0, [(300, 1)])) (fr := 18) (lo := 726) (z := z) (σ := σ) (L := [(0, .inr (.inr (some (.inr 4)))), (1, .inr (.inr (some (.inr 1000)))), (2, .inr (.inr (some (.inl 0)))), (3, .inl (.inl (.ofNat 0, [])))]) (S0 := [.inl (.inl (.ofNat 13, [])), .inl (.inl (.ofNat 0, [(300, .ofNat 1)])), .inl (.inl (.ofNat 6, [])), .inr (.inr (some (.inl 0)))]) (S := [.inl (.inl (.ofNat 6, [])), .inr (.inr (some (.inl 0)))]) (w := sx_mkw 0 [l_m 0]) (nx := 1) rfl rfl (by decide) (by decide) (by decide) (by decide) (by rw [sx_ev1]; exact h4 0 (by decide)))
  have x4 := sx_Sg.F (ns := ns) (f := f) (l_sg l_t2_ok (z := z) (σ := σ) (l_b1 (hb 0 (by decide))) (l_e1 (by rw [l_ev2]; have h : σ 20 = σ 320 - 6 := h5 0 (by decide); show (-6 : Int) + 1 * σ 320 = σ 20; rw [h]; omega)))
  have x5 := sx_Sg.F (ns := ns) (f := f) (l_sg l_t3_ok (z := z) (σ := σ) l_b0 l_e0)
  have x6 := (sx_SgF.cell (ns := ns) (f := f) (r := 55) (kk := 1) (u := 301) (fr := 18) (lo := 726) (z := z) (σ := σ) (L := [(0, .inr (.inr (some (.inr 4)))), (1, .inr (.inr (some (.inr 1000)))), (2, .inr (.inr (some (.inl 0)))), (3, .inl (.inl (.ofNat 1, [])))]) (S0 := [.inl (.inl (.ofNat 1, [])), .inr (.inr (some (.inr 4))), .inl (.inl (.ofNat 7, [])), .inr (.inr (some (.inl 0)))]) (S := [.inl (.inl (.ofNat 7, [])), .inr (.inr (some (.inl 0)))]) (w := sx_mkw 0 [l_m 1]) (nx := 1) rfl rfl (by decide) (by decide) (by decide) hns (by decide) (h3 1 (by decide)))
  have x7 := sx_Sg.F (ns := ns) (f := f) (l_sg l_t4_ok (z := z) (σ := σ) l_b0 l_e0)
  have x8 := sx_Sg.F (ns := ns) (f := f) (sx_Sg.low (r := 57) (n9 := 13) (u := 321) (e := (0, [(301, 1)])) (fr := 18) (lo := 726) (z := z) (σ := σ) (L := [(0, .inr (.inr (some (.inr 4)))), (1, .inr (.inr (some (.inr 1000)))), (2, .inr (.inr (some (.inl 0)))), (3, .inl (.inl (.ofNat 1, [])))]) (S0 := [.inl (.inl (.ofNat 13, [])), .inl (.inl (.ofNat 0, [(301, .ofNat 1)])), .inl (.inl (.ofNat 7, [])), .inr (.inr (some (.inl 0)))]) (S := [.inl (.inl (.ofNat 7, [])), .inr (.inr (some (.inl 0)))]) (w := sx_mkw 0 [l_m 1]) (nx := 1) rfl rfl (by decide) (by decide) (by decide) (by decide) (by rw [sx_ev1]; exact h4 1 (by decide)))
  have x9 := sx_Sg.F (ns := ns) (f := f) (l_sg l_t5_ok (z := z) (σ := σ) (l_b1 (hb 1 (by decide))) (l_e1 (by rw [l_ev2]; have h : σ 21 = σ 321 - 6 := h5 1 (by decide); show (-6 : Int) + 1 * σ 321 = σ 21; rw [h]; omega)))
  have x10 := sx_Sg.F (ns := ns) (f := f) (l_sg l_t6_ok (z := z) (σ := σ) l_b0 l_e0)
  have x11 := (sx_SgF.cell (ns := ns) (f := f) (r := 55) (kk := 2) (u := 302) (fr := 18) (lo := 726) (z := z) (σ := σ) (L := [(0, .inr (.inr (some (.inr 4)))), (1, .inr (.inr (some (.inr 1000)))), (2, .inr (.inr (some (.inl 0)))), (3, .inl (.inl (.ofNat 2, [])))]) (S0 := [.inl (.inl (.ofNat 2, [])), .inr (.inr (some (.inr 4))), .inl (.inl (.ofNat 8, [])), .inr (.inr (some (.inl 0)))]) (S := [.inl (.inl (.ofNat 8, [])), .inr (.inr (some (.inl 0)))]) (w := sx_mkw 0 [l_m 2]) (nx := 1) rfl rfl (by decide) (by decide) (by decide) hns (by decide) (h3 2 (by decide)))
  have x12 := sx_Sg.F (ns := ns) (f := f) (l_sg l_t7_ok (z := z) (σ := σ) l_b0 l_e0)
  have x13 := sx_Sg.F (ns := ns) (f := f) (sx_Sg.low (r := 57) (n9 := 13) (u := 322) (e := (0, [(302, 1)])) (fr := 18) (lo := 726) (z := z) (σ := σ) (L := [(0, .inr (.inr (some (.inr 4)))), (1, .inr (.inr (some (.inr 1000)))), (2, .inr (.inr (some (.inl 0)))), (3, .inl (.inl (.ofNat 2, [])))]) (S0 := [.inl (.inl (.ofNat 13, [])), .inl (.inl (.ofNat 0, [(302, .ofNat 1)])), .inl (.inl (.ofNat 8, [])), .inr (.inr (some (.inl 0)))]) (S := [.inl (.inl (.ofNat 8, [])), .inr (.inr (some (.inl 0)))]) (w := sx_mkw 0 [l_m 2]) (nx := 1) rfl rfl (by decide) (by decide) (by decide) (by decide) (by rw [sx_ev1]; exact h4 2 (by decide)))
  have x14 := sx_Sg.F (ns := ns) (f := f) (l_sg l_t8_ok (z := z) (σ := σ) (l_b1 (hb 2 (by decide))) (l_e1 (by rw [l_ev2]; have h : σ 22 = σ 322 - 6 := h5 2 (by decide); show (-6 : Int) + 1 * σ 322 = σ 22; rw [h]; omega)))
  have x15 := sx_Sg.F (ns := ns) (f := f) (l_sg l_t9_ok (z := z) (σ := σ) l_b0 l_e0)
  have x16 := (sx_SgF.cell (ns := ns) (f := f) (r := 55) (kk := 3) (u := 303) (fr := 18) (lo := 726) (z := z) (σ := σ) (L := [(0, .inr (.inr (some (.inr 4)))), (1, .inr (.inr (some (.inr 1000)))), (2, .inr (.inr (some (.inl 0)))), (3, .inl (.inl (.ofNat 3, [])))]) (S0 := [.inl (.inl (.ofNat 3, [])), .inr (.inr (some (.inr 4))), .inl (.inl (.ofNat 9, [])), .inr (.inr (some (.inl 0)))]) (S := [.inl (.inl (.ofNat 9, [])), .inr (.inr (some (.inl 0)))]) (w := sx_mkw 0 [l_m 3]) (nx := 1) rfl rfl (by decide) (by decide) (by decide) hns (by decide) (h3 3 (by decide)))
  have x17 := sx_Sg.F (ns := ns) (f := f) (l_sg l_t10_ok (z := z) (σ := σ) l_b0 l_e0)
  have x18 := sx_Sg.F (ns := ns) (f := f) (sx_Sg.low (r := 57) (n9 := 13) (u := 323) (e := (0, [(303, 1)])) (fr := 18) (lo := 726) (z := z) (σ := σ) (L := [(0, .inr (.inr (some (.inr 4)))), (1, .inr (.inr (some (.inr 1000)))), (2, .inr (.inr (some (.inl 0)))), (3, .inl (.inl (.ofNat 3, [])))]) (S0 := [.inl (.inl (.ofNat 13, [])), .inl (.inl (.ofNat 0, [(303, .ofNat 1)])), .inl (.inl (.ofNat 9, [])), .inr (.inr (some (.inl 0)))]) (S := [.inl (.inl (.ofNat 9, [])), .inr (.inr (some (.inl 0)))]) (w := sx_mkw 0 [l_m 3]) (nx := 1) rfl rfl (by decide) (by decide) (by decide) (by decide) (by rw [sx_ev1]; exact h4 3 (by decide)))
  have x19 := sx_Sg.F (ns := ns) (f := f) (l_sg l_t11_ok (z := z) (σ := σ) (l_b1 (hb 3 (by decide))) (l_e1 (by rw [l_ev2]; have h : σ 23 = σ 323 - 6 := h5 3 (by decide); show (-6 : Int) + 1 * σ 323 = σ 23; rw [h]; omega)))
  have x20 := sx_Sg.F (ns := ns) (f := f) (l_sg l_t12_ok (z := z) (σ := σ) l_b0 l_e0)
  have x21 := (sx_SgF.cell (ns := ns) (f := f) (r := 55) (kk := 4) (u := 304) (fr := 18) (lo := 726) (z := z) (σ := σ) (L := [(0, .inr (.inr (some (.inr 4)))), (1, .inr (.inr (some (.inr 1000)))), (2, .inr (.inr (some (.inl 0)))), (3, .inl (.inl (.ofNat 4, [])))]) (S0 := [.inl (.inl (.ofNat 4, [])), .inr (.inr (some (.inr 4))), .inl (.inl (.ofNat 10, [])), .inr (.inr (some (.inl 0)))]) (S := [.inl (.inl (.ofNat 10, [])), .inr (.inr (some (.inl 0)))]) (w := sx_mkw 0 [l_m 4]) (nx := 1) rfl rfl (by decide) (by decide) (by decide) hns (by decide) (h3 4 (by decide)))
  have x22 := sx_Sg.F (ns := ns) (f := f) (l_sg l_t13_ok (z := z) (σ := σ) l_b0 l_e0)
  have x23 := sx_Sg.F (ns := ns) (f := f) (sx_Sg.low (r := 57) (n9 := 13) (u := 324) (e := (0, [(304, 1)])) (fr := 18) (lo := 726) (z := z) (σ := σ) (L := [(0, .inr (.inr (some (.inr 4)))), (1, .inr (.inr (some (.inr 1000)))), (2, .inr (.inr (some (.inl 0)))), (3, .inl (.inl (.ofNat 4, [])))]) (S0 := [.inl (.inl (.ofNat 13, [])), .inl (.inl (.ofNat 0, [(304, .ofNat 1)])), .inl (.inl (.ofNat 10, [])), .inr (.inr (some (.inl 0)))]) (S := [.inl (.inl (.ofNat 10, [])), .inr (.inr (some (.inl 0)))]) (w := sx_mkw 0 [l_m 4]) (nx := 1) rfl rfl (by decide) (by decide) (by decide) (by decide) (by rw [sx_ev1]; exact h4 4 (by decide)))
  have x24 := sx_Sg.F (ns := ns) (f := f) (l_sg l_t14_ok (z := z) (σ := σ) (l_b1 (hb 4 (by decide))) (l_e1 (by rw [l_ev2]; have h : σ 24 = σ 324 - 6 := h5 4 (by decide); show (-6 : Int) + 1 * σ 324 = σ 24; rw [h]; omega)))
  have x25 := sx_Sg.F (ns := ns) (f := f) (l_sg l_t15_ok (z := z) (σ := σ) l_b0 l_e0)
  have x26 := (sx_SgF.cell (ns := ns) (f := f) (r := 55) (kk := 5) (u := 305) (fr := 18) (lo := 726) (z := z) (σ := σ) (L := [(0, .inr (.inr (some (.inr 4)))), (1, .inr (.inr (some (.inr 1000)))), (2, .inr (.inr (some (.inl 0)))), (3, .inl (.inl (.ofNat 5, [])))]) (S0 := [.inl (.inl (.ofNat 5, [])), .inr (.inr (some (.inr 4))), .inl (.inl (.ofNat 11, [])), .inr (.inr (some (.inl 0)))]) (S := [.inl (.inl (.ofNat 11, [])), .inr (.inr (some (.inl 0)))]) (w := sx_mkw 0 [l_m 5]) (nx := 1) rfl rfl (by decide) (by decide) (by decide) hns (by decide) (h3 5 (by decide)))
  have x27 := sx_Sg.F (ns := ns) (f := f) (l_sg l_t16_ok (z := z) (σ := σ) l_b0 l_e0)
  have x28 := sx_Sg.F (ns := ns) (f := f) (sx_Sg.low (r := 57) (n9 := 13) (u := 325) (e := (0, [(305, 1)])) (fr := 18) (lo := 726) (z := z) (σ := σ) (L := [(0, .inr (.inr (some (.inr 4)))), (1, .inr (.inr (some (.inr 1000)))), (2, .inr (.inr (some (.inl 0)))), (3, .inl (.inl (.ofNat 5, [])))]) (S0 := [.inl (.inl (.ofNat 13, [])), .inl (.inl (.ofNat 0, [(305, .ofNat 1)])), .inl (.inl (.ofNat 11, [])), .inr (.inr (some (.inl 0)))]) (S := [.inl (.inl (.ofNat 11, [])), .inr (.inr (some (.inl 0)))]) (w := sx_mkw 0 [l_m 5]) (nx := 1) rfl rfl (by decide) (by decide) (by decide) (by decide) (by rw [sx_ev1]; exact h4 5 (by decide)))
  have x29 := sx_Sg.F (ns := ns) (f := f) (l_sg l_t17_ok (z := z) (σ := σ) (l_b1 (hb 5 (by decide))) (l_e1 (by rw [l_ev2]; have h : σ 25 = σ 325 - 6 := h5 5 (by decide); show (-6 : Int) + 1 * σ 325 = σ 25; rw [h]; omega)))
  have x30 := sx_Sg.F (ns := ns) (f := f) (l_sg l_t18_ok (z := z) (σ := σ) l_b0 l_e0)
  have x31 := (sx_SgF.cell (ns := ns) (f := f) (r := 55) (kk := 6) (u := 306) (fr := 18) (lo := 726) (z := z) (σ := σ) (L := [(0, .inr (.inr (some (.inr 4)))), (1, .inr (.inr (some (.inr 1000)))), (2, .inr (.inr (some (.inl 0)))), (3, .inl (.inl (.ofNat 6, [])))]) (S0 := [.inl (.inl (.ofNat 6, [])), .inr (.inr (some (.inr 4))), .inl (.inl (.ofNat 12, [])), .inr (.inr (some (.inl 0)))]) (S := [.inl (.inl (.ofNat 12, [])), .inr (.inr (some (.inl 0)))]) (w := sx_mkw 0 [l_m 6]) (nx := 1) rfl rfl (by decide) (by decide) (by decide) hns (by decide) (h3 6 (by decide)))
  have x32 := sx_Sg.F (ns := ns) (f := f) (l_sg l_t19_ok (z := z) (σ := σ) l_b0 l_e0)
  have x33 := sx_Sg.F (ns := ns) (f := f) (sx_Sg.low (r := 57) (n9 := 13) (u := 326) (e := (0, [(306, 1)])) (fr := 18) (lo := 726) (z := z) (σ := σ) (L := [(0, .inr (.inr (some (.inr 4)))), (1, .inr (.inr (some (.inr 1000)))), (2, .inr (.inr (some (.inl 0)))), (3, .inl (.inl (.ofNat 6, [])))]) (S0 := [.inl (.inl (.ofNat 13, [])), .inl (.inl (.ofNat 0, [(306, .ofNat 1)])), .inl (.inl (.ofNat 12, [])), .inr (.inr (some (.inl 0)))]) (S := [.inl (.inl (.ofNat 12, [])), .inr (.inr (some (.inl 0)))]) (w := sx_mkw 0 [l_m 6]) (nx := 1) rfl rfl (by decide) (by decide) (by decide) (by decide) (by rw [sx_ev1]; exact h4 6 (by decide)))
  have x34 := sx_Sg.F (ns := ns) (f := f) (l_sg l_t20_ok (z := z) (σ := σ) (l_b1 (hb 6 (by decide))) (l_e1 (by rw [l_ev2]; have h : σ 31 = σ 326 - 6 := h5 6 (by decide); show (-6 : Int) + 1 * σ 326 = σ 31; rw [h]; omega)))
  have x35 := sx_Sg.F (ns := ns) (f := f) (l_sg l_t21_ok (z := z) (σ := σ) l_b0 l_e0)
  have x36 := (sx_SgF.cell (ns := ns) (f := f) (r := 55) (kk := 7) (u := 307) (fr := 18) (lo := 726) (z := z) (σ := σ) (L := [(0, .inr (.inr (some (.inr 4)))), (1, .inr (.inr (some (.inr 1000)))), (2, .inr (.inr (some (.inl 0)))), (3, .inl (.inl (.ofNat 7, [])))]) (S0 := [.inl (.inl (.ofNat 7, [])), .inr (.inr (some (.inr 4))), .inl (.inl (.ofNat 13, [])), .inr (.inr (some (.inl 0)))]) (S := [.inl (.inl (.ofNat 13, [])), .inr (.inr (some (.inl 0)))]) (w := sx_mkw 0 [l_m 7]) (nx := 1) rfl rfl (by decide) (by decide) (by decide) hns (by decide) (h3 7 (by decide)))
  have x37 := sx_Sg.F (ns := ns) (f := f) (l_sg l_t22_ok (z := z) (σ := σ) l_b0 l_e0)
  have x38 := sx_Sg.F (ns := ns) (f := f) (sx_Sg.low (r := 57) (n9 := 13) (u := 327) (e := (0, [(307, 1)])) (fr := 18) (lo := 726) (z := z) (σ := σ) (L := [(0, .inr (.inr (some (.inr 4)))), (1, .inr (.inr (some (.inr 1000)))), (2, .inr (.inr (some (.inl 0)))), (3, .inl (.inl (.ofNat 7, [])))]) (S0 := [.inl (.inl (.ofNat 13, [])), .inl (.inl (.ofNat 0, [(307, .ofNat 1)])), .inl (.inl (.ofNat 13, [])), .inr (.inr (some (.inl 0)))]) (S := [.inl (.inl (.ofNat 13, [])), .inr (.inr (some (.inl 0)))]) (w := sx_mkw 0 [l_m 7]) (nx := 1) rfl rfl (by decide) (by decide) (by decide) (by decide) (by rw [sx_ev1]; exact h4 7 (by decide)))
  have x39 := sx_Sg.F (ns := ns) (f := f) (l_sg l_t23_ok (z := z) (σ := σ) (l_b1 (hb 7 (by decide))) (l_e1 (by rw [l_ev2]; have h : σ 32 = σ 327 - 6 := h5 7 (by decide); show (-6 : Int) + 1 * σ 327 = σ 32; rw [h]; omega)))
  have x40 := sx_Sg.F (ns := ns) (f := f) (l_sg l_t24_ok (z := z) (σ := σ) l_b0 l_e0)
  have x41 := (sx_SgF.cell (ns := ns) (f := f) (r := 55) (kk := 8) (u := 308) (fr := 18) (lo := 726) (z := z) (σ := σ) (L := [(0, .inr (.inr (some (.inr 4)))), (1, .inr (.inr (some (.inr 1000)))), (2, .inr (.inr (some (.inl 0)))), (3, .inl (.inl (.ofNat 8, [])))]) (S0 := [.inl (.inl (.ofNat 8, [])), .inr (.inr (some (.inr 4))), .inl (.inl (.ofNat 14, [])), .inr (.inr (some (.inl 0)))]) (S := [.inl (.inl (.ofNat 14, [])), .inr (.inr (some (.inl 0)))]) (w := sx_mkw 0 [l_m 8]) (nx := 1) rfl rfl (by decide) (by decide) (by decide) hns (by decide) (h3 8 (by decide)))
  have x42 := sx_Sg.F (ns := ns) (f := f) (l_sg l_t25_ok (z := z) (σ := σ) l_b0 l_e0)
  have x43 := sx_Sg.F (ns := ns) (f := f) (sx_Sg.low (r := 57) (n9 := 13) (u := 328) (e := (0, [(308, 1)])) (fr := 18) (lo := 726) (z := z) (σ := σ) (L := [(0, .inr (.inr (some (.inr 4)))), (1, .inr (.inr (some (.inr 1000)))), (2, .inr (.inr (some (.inl 0)))), (3, .inl (.inl (.ofNat 8, [])))]) (S0 := [.inl (.inl (.ofNat 13, [])), .inl (.inl (.ofNat 0, [(308, .ofNat 1)])), .inl (.inl (.ofNat 14, [])), .inr (.inr (some (.inl 0)))]) (S := [.inl (.inl (.ofNat 14, [])), .inr (.inr (some (.inl 0)))]) (w := sx_mkw 0 [l_m 8]) (nx := 1) rfl rfl (by decide) (by decide) (by decide) (by decide) (by rw [sx_ev1]; exact h4 8 (by decide)))
  have x44 := sx_Sg.F (ns := ns) (f := f) (l_sg l_t26_ok (z := z) (σ := σ) (l_b1 (hb 8 (by decide))) (l_e1 (by rw [l_ev2]; have h : σ 33 = σ 328 - 6 := h5 8 (by decide); show (-6 : Int) + 1 * σ 328 = σ 33; rw [h]; omega)))
  have x45 := sx_Sg.F (ns := ns) (f := f) (l_sg l_t27_ok (z := z) (σ := σ) l_b0 l_e0)
  have x46 := (sx_SgF.cell (ns := ns) (f := f) (r := 66) (kk := 9) (u := 309) (fr := 18) (lo := 726) (z := z) (σ := σ) (L := [(0, .inr (.inr (some (.inr 4)))), (1, .inr (.inr (some (.inr 1000)))), (2, .inr (.inr (some (.inl 0)))), (3, .inl (.inl (.ofNat 9, [])))]) (S0 := [.inl (.inl (.ofNat 9, [])), .inr (.inr (some (.inr 4))), .inl (.inl (.ofNat 1, []))]) (S := [.inl (.inl (.ofNat 1, []))]) (w := sx_mkw 0 [l_m 9]) (nx := 1) rfl rfl (by decide) (by decide) (by decide) hns (by decide) (h3 9 (by decide)))
  have x47 := sx_Sg.F (ns := ns) (f := f) (l_sg l_t28_ok (z := z) (σ := σ) l_b0 l_e0)
  have x48 := sx_Sg.F (ns := ns) (f := f) (sx_Sg.low (r := 68) (n9 := 3) (u := 329) (e := (0, [(309, 1)])) (fr := 18) (lo := 726) (z := z) (σ := σ) (L := [(0, .inr (.inr (some (.inr 4)))), (1, .inr (.inr (some (.inr 1000)))), (2, .inr (.inr (some (.inl 0)))), (3, .inl (.inl (.ofNat 9, [])))]) (S0 := [.inl (.inl (.ofNat 3, [])), .inl (.inl (.ofNat 0, [(309, .ofNat 1)])), .inl (.inl (.ofNat 1, []))]) (S := [.inl (.inl (.ofNat 1, []))]) (w := sx_mkw 0 [l_m 9]) (nx := 1) rfl rfl (by decide) (by decide) (by decide) (by decide) (by rw [sx_ev1]; exact h29))
  have x49 := sx_Sg.F (ns := ns) (f := f) (l_sg l_t29_ok (z := z) (σ := σ) (l_b1 hb29) l_e0)
  have x50 := (sx_SgF.cell (ns := ns) (f := f) (r := 73) (kk := 10) (u := 310) (fr := 18) (lo := 726) (z := z) (σ := σ) (L := [(0, .inr (.inr (some (.inr 4)))), (1, .inr (.inr (some (.inr 1000)))), (2, .inr (.inr (some (.inl 0)))), (3, .inl (.inl (.ofNat 1, [(329, .ofNat 1)])))]) (S0 := [.inl (.inl (.ofNat 10, [])), .inr (.inr (some (.inr 4)))]) (S := []) (w := sx_mkw 0 [l_m 9]) (nx := 1) rfl rfl (by decide) (by decide) (by decide) hns (by decide) (h3 10 (by decide)))
  have x51 := sx_Sg.F (ns := ns) (f := f) (l_sg l_t30_ok (z := z) (σ := σ) (l_b1 hb29) l_e0)
  have x52 := sx_Sg.F (ns := ns) (f := f) (sx_Sg.and (r := 75) (pc := 140) (cc := 1) (u := 310) (v := 352) (fr := 18) (lo := 726) (z := z) (σ := σ) (L := [(0, .inr (.inr (some (.inr 4)))), (1, .inr (.inr (some (.inr 1000)))), (2, .inr (.inr (some (.inl 0)))), (3, .inl (.inl (.ofNat 1, [(329, .ofNat 1)])))]) (S := []) (w := sx_mkw 0 [l_m 9]) (nx := 1) rfl rfl (by decide +kernel) h352)
  have x53 := sx_Sg.F (ns := ns) (f := f) hBY
  have x54 := (sx_SgF.cell (ns := ns) (f := f) (r := 85) (kk := 11) (u := 311) (fr := 18) (lo := 726) (z := z) (σ := σ) (L := [(0, .inr (.inr (some (.inr 4)))), (1, .inr (.inr (some (.inr 1000)))), (2, .inr (.inr (some (.inl 0)))), (3, .inl (.inl (.ofNat 0, [(26, .ofNat 1)])))]) (S0 := [.inl (.inl (.ofNat 11, [])), .inr (.inr (some (.inr 4))), .inl (.inl (.ofNat 1, []))]) (S := [.inl (.inl (.ofNat 1, []))]) (w := sx_mkw 0 [l_m 9]) (nx := 1) rfl rfl (by decide) (by decide) (by decide) hns (by decide) (h3 11 (by decide)))
  have x55 := sx_Sg.F (ns := ns) (f := f) (l_sg l_t33_ok (z := z) (σ := σ) l_b0 l_e0)
  have x56 := sx_Sg.F (ns := ns) (f := f) (sx_Sg.low (r := 87) (n9 := 2) (u := 331) (e := (0, [(311, 1)])) (fr := 18) (lo := 726) (z := z) (σ := σ) (L := [(0, .inr (.inr (some (.inr 4)))), (1, .inr (.inr (some (.inr 1000)))), (2, .inr (.inr (some (.inl 0)))), (3, .inl (.inl (.ofNat 0, [(26, .ofNat 1)])))]) (S0 := [.inl (.inl (.ofNat 2, [])), .inl (.inl (.ofNat 0, [(311, .ofNat 1)])), .inl (.inl (.ofNat 1, []))]) (S := [.inl (.inl (.ofNat 1, []))]) (w := sx_mkw 0 [l_m 9]) (nx := 1) rfl rfl (by decide) (by decide) (by decide) (by decide) (by rw [sx_ev1]; exact h31))
  have x57 := sx_Sg.F (ns := ns) (f := f) (l_sg l_t34_ok (z := z) (σ := σ) (l_b1 hb31) l_e0)
  have x58 := (sx_SgF.cell (ns := ns) (f := f) (r := 92) (kk := 10) (u := 310) (fr := 18) (lo := 726) (z := z) (σ := σ) (L := [(0, .inr (.inr (some (.inr 4)))), (1, .inr (.inr (some (.inr 1000)))), (2, .inr (.inr (some (.inl 0)))), (3, .inl (.inl (.ofNat 0, [(26, .ofNat 1)]))), (4, .inl (.inl (.ofNat 1, [(331, .ofNat 1)])))]) (S0 := [.inl (.inl (.ofNat 10, [])), .inr (.inr (some (.inr 4)))]) (S := []) (w := sx_mkw 0 [l_m 9]) (nx := 1) rfl rfl (by decide) (by decide) (by decide) hns (by decide) (h3 10 (by decide)))
  have x59 := sx_Sg.F (ns := ns) (f := f) (l_sg l_t35_ok (z := z) (σ := σ) (l_b1 hb31) l_e0)
  have x60 := sx_Sg.F (ns := ns) (f := f) (sx_Sg.and (r := 94) (pc := 172) (cc := 2) (u := 310) (v := 353) (fr := 18) (lo := 726) (z := z) (σ := σ) (L := [(0, .inr (.inr (some (.inr 4)))), (1, .inr (.inr (some (.inr 1000)))), (2, .inr (.inr (some (.inl 0)))), (3, .inl (.inl (.ofNat 0, [(26, .ofNat 1)]))), (4, .inl (.inl (.ofNat 1, [(331, .ofNat 1)])))]) (S := []) (w := sx_mkw 0 [l_m 9]) (nx := 1) rfl rfl (by decide +kernel) h353)
  have x61 := sx_Sg.F (ns := ns) (f := f) hOT
  have x62 := (sx_SgF.cell (ns := ns) (f := f) (r := 103) (kk := 12) (u := 312) (fr := 18) (lo := 726) (z := z) (σ := σ) (L := [(0, .inr (.inr (some (.inr 4)))), (1, .inr (.inr (some (.inr 1000)))), (2, .inr (.inr (some (.inl 0)))), (3, .inl (.inl (.ofNat 0, [(26, .ofNat 1)]))), (4, .inl (.inl (.ofNat 0, [(27, .ofNat 1)])))]) (S0 := [.inl (.inl (.ofNat 12, [])), .inr (.inr (some (.inr 4)))]) (S := []) (w := sx_mkw 0 [l_m 9]) (nx := 1) rfl rfl (by decide) (by decide) (by decide) hns (by decide) (h3 12 (by decide)))
  have x63 := sx_Sg.F (ns := ns) (f := f) (l_sg l_t38_ok (z := z) (σ := σ) l_b0 l_e0)
  have x64 := sx_Sg.F (ns := ns) (f := f) (sx_Sg.low (r := 105) (n9 := 6) (u := 332) (e := (0, [(312, 1)])) (fr := 18) (lo := 726) (z := z) (σ := σ) (L := [(0, .inr (.inr (some (.inr 4)))), (1, .inr (.inr (some (.inr 1000)))), (2, .inr (.inr (some (.inl 0)))), (3, .inl (.inl (.ofNat 0, [(26, .ofNat 1)]))), (4, .inl (.inl (.ofNat 0, [(27, .ofNat 1)])))]) (S0 := [.inl (.inl (.ofNat 6, [])), .inl (.inl (.ofNat 0, [(312, .ofNat 1)]))]) (S := []) (w := sx_mkw 0 [l_m 9]) (nx := 1) rfl rfl (by decide) (by decide) (by decide) (by decide) (by rw [sx_ev1]; exact h32))
  have x65 := sx_Sg.F (ns := ns) (f := f) (l_sg l_t39_ok (z := z) (σ := σ) l_b0 (l_e1 (by rw [l_ev2]; show (0 : Int) + 1 * σ 332 = σ 28; rw [h28]; omega)))
  have x66 := (sx_SgF.cell (ns := ns) (f := f) (r := 109) (kk := 13) (u := 313) (fr := 18) (lo := 726) (z := z) (σ := σ) (L := [(0, .inr (.inr (some (.inr 4)))), (1, .inr (.inr (some (.inr 1000)))), (2, .inr (.inr (some (.inl 0)))), (3, .inl (.inl (.ofNat 0, [(26, .ofNat 1)]))), (4, .inl (.inl (.ofNat 0, [(27, .ofNat 1)]))), (5, .inl (.inl (.ofNat 0, [(28, .ofNat 1)])))]) (S0 := [.inl (.inl (.ofNat 13, [])), .inr (.inr (some (.inr 4)))]) (S := []) (w := sx_mkw 0 [l_m 9]) (nx := 1) rfl rfl (by decide) (by decide) (by decide) hns (by decide) (h3 13 (by decide)))
  have x67 := sx_Sg.F (ns := ns) (f := f) (l_sg l_t40_ok (z := z) (σ := σ) l_b0 l_e0)
  have x68 := sx_Sg.F (ns := ns) (f := f) (sx_Sg.low (r := 111) (n9 := 6) (u := 333) (e := (0, [(313, 1)])) (fr := 18) (lo := 726) (z := z) (σ := σ) (L := [(0, .inr (.inr (some (.inr 4)))), (1, .inr (.inr (some (.inr 1000)))), (2, .inr (.inr (some (.inl 0)))), (3, .inl (.inl (.ofNat 0, [(26, .ofNat 1)]))), (4, .inl (.inl (.ofNat 0, [(27, .ofNat 1)]))), (5, .inl (.inl (.ofNat 0, [(28, .ofNat 1)])))]) (S0 := [.inl (.inl (.ofNat 6, [])), .inl (.inl (.ofNat 0, [(313, .ofNat 1)]))]) (S := []) (w := sx_mkw 0 [l_m 9]) (nx := 1) rfl rfl (by decide) (by decide) (by decide) (by decide) (by rw [sx_ev1]; exact h33))
  have x69 := sx_Sg.F (ns := ns) (f := f) (l_sg l_t41_ok (z := z) (σ := σ) l_b0 (l_e1 (by rw [l_ev2]; show (0 : Int) + 1 * σ 333 = σ 29; rw [h29b]; omega)))
  have x70 := (sx_SgF.cell (ns := ns) (f := f) (r := 116) (kk := 14) (u := 314) (fr := 18) (lo := 726) (z := z) (σ := σ) (L := [(0, .inr (.inr (some (.inr 4)))), (1, .inr (.inr (some (.inr 1000)))), (2, .inr (.inr (some (.inl 0)))), (3, .inl (.inl (.ofNat 0, [(26, .ofNat 1)]))), (4, .inl (.inl (.ofNat 0, [(27, .ofNat 1)]))), (5, .inl (.inl (.ofNat 0, [(28, .ofNat 1)]))), (6, .inl (.inl (.ofNat 0, [(29, .ofNat 1)])))]) (S0 := [.inl (.inl (.ofNat 14, [])), .inr (.inr (some (.inr 4))), .inl (.inl (.ofNat 2, []))]) (S := [.inl (.inl (.ofNat 2, []))]) (w := sx_mkw 0 [l_m 9]) (nx := 1) rfl rfl (by decide) (by decide) (by decide) hns (by decide) (h3 14 (by decide)))
  have x71 := sx_Sg.F (ns := ns) (f := f) (l_sg l_t42_ok (z := z) (σ := σ) l_b0 l_e0)
  have x72 := sx_Sg.F (ns := ns) (f := f) (sx_Sg.low (r := 118) (n9 := 40) (u := 334) (e := (0, [(314, 1)])) (fr := 18) (lo := 726) (z := z) (σ := σ) (L := [(0, .inr (.inr (some (.inr 4)))), (1, .inr (.inr (some (.inr 1000)))), (2, .inr (.inr (some (.inl 0)))), (3, .inl (.inl (.ofNat 0, [(26, .ofNat 1)]))), (4, .inl (.inl (.ofNat 0, [(27, .ofNat 1)]))), (5, .inl (.inl (.ofNat 0, [(28, .ofNat 1)]))), (6, .inl (.inl (.ofNat 0, [(29, .ofNat 1)])))]) (S0 := [.inl (.inl (.ofNat 40, [])), .inl (.inl (.ofNat 0, [(314, .ofNat 1)])), .inl (.inl (.ofNat 2, []))]) (S := [.inl (.inl (.ofNat 2, []))]) (w := sx_mkw 0 [l_m 9]) (nx := 1) rfl rfl (by decide) (by decide) (by decide) (by decide) (by rw [sx_ev1]; exact h34))
  have x73 := sx_Sg.F (ns := ns) (f := f) (l_sg l_t43_ok (z := z) (σ := σ) (l_b1 hb34) (l_e1 (by rw [l_ev2]; show (2 : Int) + 1 * σ 334 = σ 30; rw [h30]; omega)))
  have y0 := x0
  have y1 := y0.trans x1
  have y2 := y1.trans x2
  have y3 := y2.trans x3
  have y4 := y3.trans x4
  have y5 := y4.trans x5
  have y6 := y5.trans x6
  have y7 := y6.trans x7
  have y8 := y7.trans x8
  have y9 := y8.trans x9
  have y10 := y9.trans x10
  have y11 := y10.trans x11
  have y12 := y11.trans x12
  have y13 := y12.trans x13
  have y14 := y13.trans x14
  have y15 := y14.trans x15
  have y16 := y15.trans x16
  have y17 := y16.trans x17
  have y18 := y17.trans x18
  have y19 := y18.trans x19
  have y20 := y19.trans x20
  have y21 := y20.trans x21
  have y22 := y21.trans x22
  have y23 := y22.trans x23
  have y24 := y23.trans x24
  have y25 := y24.trans x25
  have y26 := y25.trans x26
  have y27 := y26.trans x27
  have y28 := y27.trans x28
  have y29 := y28.trans x29
  have y30 := y29.trans x30
  have y31 := y30.trans x31
  have y32 := y31.trans x32
  have y33 := y32.trans x33
  have y34 := y33.trans x34
  have y35 := y34.trans x35
  have y36 := y35.trans x36
  have y37 := y36.trans x37
  have y38 := y37.trans x38
  have y39 := y38.trans x39
  have y40 := y39.trans x40
  have y41 := y40.trans x41
  have y42 := y41.trans x42
  have y43 := y42.trans x43
  have y44 := y43.trans x44
  have y45 := y44.trans x45
  have y46 := y45.trans x46
  have y47 := y46.trans x47
  have y48 := y47.trans x48
  have y49 := y48.trans x49
  have y50 := y49.trans x50
  have y51 := y50.trans x51
  have y52 := y51.trans x52
  have y53 := y52.trans x53
  have y54 := y53.trans x54
  have y55 := y54.trans x55
  have y56 := y55.trans x56
  have y57 := y56.trans x57
  have y58 := y57.trans x58
  have y59 := y58.trans x59
  have y60 := y59.trans x60
  have y61 := y60.trans x61
  have y62 := y61.trans x62
  have y63 := y62.trans x63
  have y64 := y63.trans x64
  have y65 := y64.trans x65
  have y66 := y65.trans x66
  have y67 := y66.trans x67
  have y68 := y67.trans x68
  have y69 := y68.trans x69
  have y70 := y69.trans x70
  have y71 := y70.trans x71
  have y72 := y71.trans x72
  have y73 := y72.trans x73
  exact y73
