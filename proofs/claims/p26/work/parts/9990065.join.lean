/-! rows 46 to 210 of the law in the world that its start leaves -/
def j_th : List (Nat × sx_I) := [(200, (.ofNat 100, [])), (201, (.ofNat 32, [])), (202, (.ofNat 32, [])), (203, (.ofNat 32, [])), (204, (.ofNat 32, [])), (205, (.ofNat 32, [])), (206, (.ofNat 32, [])), (207, (.ofNat 32, [])), (208, (.ofNat 32, [])), (209, (.ofNat 32, [])), (210, (.ofNat 32, [])), (211, (.ofNat 32, [])), (212, (.ofNat 32, [])), (213, (.ofNat 32, [])), (214, (.ofNat 32, [])), (215, (.ofNat 32, [])), (216, (.ofNat 32, [])), (217, (.ofNat 32, [])), (218, (.ofNat 32, [])), (219, (.ofNat 32, [])), (100, (.ofNat 112, [])), (101, (.ofNat 114, [])), (102, (.ofNat 111, [])), (103, (.ofNat 99, [])), (104, (.ofNat 101, [])), (105, (.ofNat 100, [])), (106, (.ofNat 117, [])), (107, (.ofNat 114, [])), (108, (.ofNat 101, [])), (109, (.ofNat 32, [])), (110, (.ofNat 109, [])), (111, (.ofNat 97, [])), (112, (.ofNat 105, [])), (113, (.ofNat 110, [])), (114, (.ofNat 40, [])), (115, (.ofNat 41, [])), (116, (.ofNat 59, [])), (117, (.ofNat 32, [])), (118, (.ofNat 101, [])), (119, (.ofNat 110, [])), (120, (.ofNat 100, [])), (121, (.ofNat 32, [])), (122, (.ofNat 32, [])), (123, (.ofNat 32, [])), (124, (.ofNat 32, [])), (125, (.ofNat 32, [])), (126, (.ofNat 32, [])), (127, (.ofNat 32, [])), (128, (.ofNat 32, [])), (129, (.ofNat 32, [])), (130, (.ofNat 32, [])), (131, (.ofNat 32, [])), (132, (.ofNat 32, [])), (133, (.ofNat 32, [])), (134, (.ofNat 32, [])), (135, (.ofNat 32, [])), (136, (.ofNat 32, [])), (137, (.ofNat 32, [])), (138, (.ofNat 32, [])), (139, (.ofNat 32, []))]
def j_ga1 : List (Nat × sx_F) := [(1000, some (.inl 0))]
def j_ga2 : List (Nat × sx_F) := [(1000, some (.inr 4)), (2000, some (.inr 2000)), (2001, some (.inl 3)), (2002, some (.inr 2001)), (2003, some (.inl 10)), (2004, some (.inl 6)), (2005, some (.inl 21))]
def j_L0 : List (Nat × sx_V) := [(0, .inr (.inr (some (.inr 4)))), (1, .inr (.inr (some (.inr 1000)))), (2, .inr (.inr (some (.inl 0)))), (3, .inl (.inl (.ofNat 0, [])))]
def j_L1 : List (Nat × sx_V) := [(0, .inr (.inr (some (.inr 4)))), (1, .inr (.inr (some (.inr 1000)))), (2, .inr (.inr (some (.inl 0)))), (3, f_b 26), (4, f_b 27), (5, f_b 28), (6, f_b 29), (7, f_b 30)]
/-- row 46 -/
noncomputable def j_46 : sx_Pt := (46, st_L, [], sx_mkw 0 st_pre, st_pre.length)
/-- row 121 -/
noncomputable def j_121 : sx_Pt := (121, sx_iU (sx_fi [1] j_46.2.2.2.2) j_ga1 j_th j_L1, sx_iS (sx_fi [1] j_46.2.2.2.2) j_ga1 j_th [], sx_puts (sx_fi [1] j_46.2.2.2.2) j_ga1 j_th 0 [l_m 9] j_46.2.2.2.1, j_46.2.2.2.2 + (1 - 1))
/-- row 210, o bytes told -/
noncomputable def j_210 (o : Nat) : sx_Pt := (210, sx_iU (sx_fi [0, 1, 2] j_121.2.2.2.2) j_ga2 j_th f_L, sx_iS (sx_fi [0, 1, 2] j_121.2.2.2.2) j_ga2 j_th [], sx_puts (sx_fi [0, 1, 2] j_121.2.2.2.2) j_ga2 j_th 0 (f_cs o) j_121.2.2.2.1, j_121.2.2.2.2 + (3 - 3))
theorem j_ck1 : sx_ckI [1] j_ga1 j_th j_L0 [] [l_m 0] j_46 = true := by decide +kernel
theorem j_ck2 : sx_ckI [0, 1, 2] j_ga2 j_th f_L [] (f_cs 0) j_121 = true := by decide +kernel
theorem j_σ {σ : Nat → Int} {θ : List (Nat × sx_I)} (h : ∀ q ∈ θ, sx_ev σ q.2 = σ q.1) : sx_σi θ σ = σ := by
  funext u
  unfold sx_σi
  cases hu : sx_lk θ u with
  | none => rfl
  | some v => exact h _ (sx_lk_in hu)
theorem j_look {cs : List sx_C} (h : sx_ckp (sx_mkw 0 cs) 0 cs = true) : ∀ (i : Nat) (c : sx_C), cs[i]? = some c → sx_look 12 (sx_mkw 0 cs) i = some c := fun i c hi => by
  have := sx_ckp_ok h i c hi
  rw [Nat.zero_add] at this
  exact this
theorem j_1 {ns : Nat} {f : Nat → Int32} {z : Nat → Nat} {σ : Nat → Int} (hθ : ∀ q ∈ j_th, sx_ev σ q.2 = σ q.1) (h : ∀ z' : Nat → Nat, sx_SgF ns f wsL_law sm_L_law 18 726 0 0 z' σ (l_pt 46 j_L0 [] 0) (l_pt 121 j_L1 [] 9)) : sx_SgF ns f wsL_law sm_L_law 18 726 0 0 z σ j_46 j_121 :=
  sx_SgF.use (pre := [l_m 0]) (post := [l_m 9]) [1] j_ga1 j_th (fun z' => ⟨sx_mkw 0 [l_m 9], j_look (by decide +kernel), by rw [j_σ hθ]; exact h z'⟩) rfl (Nat.le_refl 1) j_ck1
theorem j_2 {ns : Nat} {f : Nat → Int32} {z : Nat → Nat} {σ : Nat → Int} {o : Nat} (ho : o = 40 ∨ o = 60) (hθ : ∀ q ∈ j_th, sx_ev σ q.2 = σ q.1) (h : ∀ z' : Nat → Nat, sx_SgF ns f wsL_law sm_L_law 18 726 0 0 z' σ (f_pt 121 0) (f_pt 210 o)) : sx_SgF ns f wsL_law sm_L_law 18 726 0 0 z σ j_121 (j_210 o) :=
  sx_SgF.use (pre := f_cs 0) (post := f_cs o) [0, 1, 2] j_ga2 j_th (fun z' => ⟨sx_mkw 0 (f_cs o), j_look (by rcases ho with rfl | rfl <;> decide +kernel), by rw [j_σ hθ]; exact h z'⟩) rfl (Nat.le_refl 3) j_ck2
