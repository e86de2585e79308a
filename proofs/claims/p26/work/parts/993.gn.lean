/-! the law calls next, next calls go -/
theorem gn_prep_v {P : Nat → Option sx_M} {x : sx_R} {c : sx_S} {mj n ci a : Nat} {S : List sx_V} {fs : List (Option sx_V)} {rest : List Nat} {M' : sx_M} (h1 : sx_isinv x.2.1 = true) (h2 : x.2.2.2.1 = 0 :: mj :: n :: ci :: rest) (h3 : P mj = some M') (h4 : c.2.2.1.drop n = .inr (.inr (some (.inl a))) :: S) (h5 : sx_look 12 c.2.2.2.1 a = some (.inl (ci, fs))) : sx_prep P x c = some (M', sx_id a :: (c.2.2.1.take n).reverse, S) := by
  unfold sx_prep
  rw [h1, h2]
  simp only [h3, h4, h5, Nat.beq_refl, Bool.not_true, Bool.true_or, cond_false, cond_true]
theorem gn_look {B : Nat → List (Nat × sx_C)} (hB : bk_OK B) {i j : Nat} {c : sx_C} (hi : i < 4096) (hj : bk_c i = j) (hj2 : j ∈ bk_all) (h : sx_lk (B j) i = some c) : sx_look 12 (gx_mk (bk_W B bk_all)) i = some c := by
  subst hj
  rw [gx_mk_look hi]
  exact (bk_lk i bk_all hB c).mpr ⟨hj2, h⟩
theorem gn_retw {B : sx_Bs} {M : sx_M} {r nx a b : Nat} {L : List (Nat × sx_V)} {S : List sx_V} (w w' : sx_W) : sx_ret B M (r, L, S, w, nx, a, b) = sx_ret B M (r, L, S, w', nx, a, b) := rfl
def gn_retc (o : Option (List sx_V)) (rv : List sx_V) : Bool := match o with
  | some v => sx_eqS v rv
  | none => false
theorem gn_reto {o : Option (List sx_V)} {rv : List sx_V} (h : gn_retc o rv = true) : o = some rv := by
  cases o with
  | none => cases h
  | some v =>
    have h : sx_eqS v rv = true := h
    rw [sx_eqS_ok h]
def gn_nL : List (Nat × sx_V) := [(0, .inr (.inr (some (.inl 0)))), (1, .inl (.inl (.ofNat 0, []))), (2, .inl (.inl (.ofNat 4000, [])))]
def gn_nL1 : List (Nat × sx_V) := [(0, .inr (.inr (some (.inl 0)))), (3, .inr (.inr (some (.inl 1))))]
def gn_c (n : Int) : sx_V := .inl (.inl (n, []))
def gn_row (pc : Nat) : sx_R := (pc, .invokevirtual 100, 3, [0, 132, 2, 14, 3108, 3109, 3110, 2, 3111, 0], .ofNat 0)
/-- the law's call of next, at the rows 277, 302, 307 -/
theorem gn_law {B B1 : Nat → List (Nat × sx_C)} {z : Nat → Nat} {σ σ1 : Nat → Int} {dk ds r pc rr : Nat} {L : List (Nat × sx_V)} {c : Int} (hrow : sx_row sm_L_law r = some (gn_row pc)) (hB : bk_OK B) (h14 : B 14 = gn_LB) (hret : ∀ w, sx_ret [] sm_X12_next (rr, [], [gn_c c], w, 300, 0, 0) = some [gn_c c]) (hL : L.all (fun q => gx_lo 40 q.2) = true)
    (hsg : gx_G 40 sm_X12_next 17 700 dk ds z σ (bk_pt 0 gn_nL [] B 300) σ1 (bk_pt rr [] [gn_c c] B1 300)) : gx_G 40 sm_L_law 18 726 dk ds z σ (bk_pt r L [gn_c 4000, gn_c 0, sx_id 0] B 300) σ1 (bk_pt (r + 1) L [gn_c c] B1 300) := by
  obtain ⟨fs, hf⟩ : ∃ fs, sx_lk gn_LB 0 = some (.inl (14, fs)) := ⟨_, rfl⟩
  have hl : sx_look 12 (gx_mk (bk_W B bk_all)) 0 = some (.inl (14, fs)) := gn_look (j := 14) hB (by decide) (by decide) (by decide) (by rw [h14]; exact hf)
  exact gx_G.call (fr := 18) (lo := 726) (fr1 := 17) (lo1 := 700) (S' := []) (rv := [gn_c c]) (r := r) (L := L) (S := [gn_c 4000, gn_c 0, sx_id 0]) (M := sm_L_law) (M' := sm_X12_next) (mi := 59) (mj := 132) rfl rfl hrow (by decide +kernel) (gn_prep_v (M' := sm_X12_next) (mj := 132) (n := 2) (ci := 14) (a := 0) (S := []) rfl rfl rfl rfl hl) (by decide) (Nat.le_of_ble_eq_true rfl) (by decide) (Nat.le_of_ble_eq_true rfl) (Nat.le_of_ble_eq_true rfl) (by decide) hsg (hret _) hL rfl
/-- next's call of go -/
theorem gn_next {B B1 : Nat → List (Nat × sx_C)} {z : Nat → Nat} {σ σ1 : Nat → Int} {dk ds : Nat} (hB : bk_OK B) (hR : ∃ fs, sx_lk (B 0) 1 = some (.inl (10, fs))) (hsg : gx_G 40 sm_X8_go 16 650 dk ds z σ (bk_pt 0 gr_L [] B 300) σ1 (bk_pt 115 [] [] B1 300)) : gx_G 40 sm_X12_next 17 700 dk ds z σ (bk_pt 34 gn_nL1 [gn_c 4000, sx_id 1] B 300) σ1 (bk_pt 35 gn_nL1 [] B1 300) := by
  obtain ⟨fs, hf⟩ := hR
  have hl : sx_look 12 (gx_mk (bk_W B bk_all)) 1 = some (.inl (10, fs)) := gn_look (j := 0) hB (by decide) (by decide) (by decide) hf
  exact gx_G.call (fr := 17) (lo := 700) (fr1 := 16) (lo1 := 650) (S' := []) (rv := []) (r := 34) (L := gn_nL1) (S := [gn_c 4000, sx_id 1]) (M := sm_X12_next) (M' := sm_X8_go) (mi := 132) (mj := 21) (x := (60, .invokevirtual 203, 3, [0, 21, 1, 10, 1634, 1635, 1636, 1426, 1637, 0], .ofNat 0)) rfl rfl rfl (by decide +kernel) (gn_prep_v (M' := sm_X8_go) (mj := 21) (n := 1) (ci := 10) (a := 1) (S := []) rfl rfl rfl rfl hl) (by decide) (Nat.le_of_ble_eq_true rfl) (by decide) (Nat.le_of_ble_eq_true rfl) (Nat.le_of_ble_eq_true rfl) (by decide) hsg ((gn_retw _ (gx_mk [])).trans (gn_reto (by decide +kernel))) rfl rfl
