/-! from row 210 in the start's world to the end -/
noncomputable def jl (o : Nat) : List (Nat × sx_C) := (List.range 23).filterMap (fun i => (sx_look 12 (j_210 o).2.2.2.1 i).map (fun c => (i, c)))
theorem jl_ok {o i : Nat} {c : sx_C} (h : sx_look 12 (gx_mk (jl o)) i = some c) : sx_look 12 (j_210 o).2.2.2.1 i = some c := by
  obtain ⟨-, h⟩ := gx_mk_some h
  have h := sx_lk_in h
  obtain ⟨j, -, hj⟩ := List.mem_filterMap.mp h
  cases e : sx_look 12 (j_210 o).2.2.2.1 j with
  | none =>
    rw [e] at hj
    cases hj
  | some c9 =>
    rw [e] at hj
    have hj : some (j, c9) = some (i, c) := hj
    cases hj
    exact e
def jfs : List (Nat × Nat) := [(0, 0), (30, 1), (41, 2), (9, 3), (1, 4), (2, 5), (40, 6), (42, 7), (43, 8), (44, 9), (3, 10), (33, 11), (4, 12), (7, 13), (5, 14), (6, 15), (8, 16), (34, 17), (35, 18), (36, 19), (32, 20), (31, 21), (12, 22)]
def ju (u : Nat) : sx_I := (.ofNat 0, [(u, .ofNat 1)])
def jθ (o : Nat) : List (Nat × sx_I) := [(50, kc o), (51, kc 0), (19, kc 0), (20, kc 0), (21, kc 0), (1020, ju 20), (1021, ju 21), (1022, ju 22), (1023, ju 23), (1024, ju 24), (1025, ju 25), (1033, ju 26), (1034, ju 27), (1035, ju 28), (1036, ju 29), (1037, ju 30), (37, ju 20), (11, ju 21), (12, ju 26), (32, ju 22), (33, ju 23), (34, ju 27), (35, ju 24), (36, ju 25), (44, ju 8), (45, ju 9)] ++ cond (Nat.beq o 40) [(260, kc 0), (261, kc 0), (262, kc 0), (263, kc 0), (264, kc 0), (265, kc 0), (266, kc 0), (267, kc 0), (268, kc 0), (269, kc 0), (270, kc 0), (271, kc 0), (272, kc 0), (273, kc 0), (274, kc 0), (275, kc 0), (276, kc 0), (277, kc 0), (278, kc 0), (279, kc 0)] []
noncomputable def pu13 (o : Nat) : gx_D := ([], [212], (210, (j_210 o).2.1, [], jl o, 23), 0, 0, 0, jfs, jθ o, (212, gl_L7, [pC 0, pI 0], pG0, 400))
theorem jc_40 : (gx_okDI [] sm_L_law 18 726 (pu13 40) && pchk (pu13 40) [] (210, (j_210 40).2.1, [], jl 40, 23) (212, gl_L7, [pC 0, pI 0], pG0, 400)) = true := by decide +kernel
theorem jc_60 : (gx_okDI [] sm_L_law 18 726 (pu13 60) && pchk (pu13 60) [] (210, (j_210 60).2.1, [], jl 60, 23) (212, gl_L7, [pC 0, pI 0], pG0, 400)) = true := by decide +kernel
theorem j_go {o : Nat} (ho : o = 40 ∨ o = 60) {z : Nat → Nat} {σ : Nat → Int} : gx_H 0 sm_L_law 18 726 0 0 z σ (j_210 o) (sx_σi (jθ o) σ) (212, gl_L7, [pC 0, pI 0], gx_mk pG0, 400) := by
  have h9 : (gx_okDI [] sm_L_law 18 726 (pu13 o) && pchk (pu13 o) [] (210, (j_210 o).2.1, [], jl o, 23) (212, gl_L7, [pC 0, pI 0], pG0, 400)) = true := by
    rcases ho with rfl | rfl
    · exact jc_40
    · exact jc_60
  rw [Bool.and_eq_true] at h9
  have k : gx_H 0 sm_L_law 18 726 0 0 z σ (210, (j_210 o).2.1, [], gx_mk (jl o), 23) (sx_σi (jθ o) σ) (212, gl_L7, [pC 0, pI 0], gx_mk pG0, 400) := pMw (d := pu13 o) hM_law h9.1 h9.2 pB0
  have e : j_210 o = (210, (j_210 o).2.1, [], (j_210 o).2.2.2.1, 23) := rfl
  rw [e]
  exact gx_H.sub k (fun i c h => jl_ok h) (fun i c h => h)
/-! the end is reached -/
/-- from this state the law gives 1 -/
def xE (ns : Nat) (f : Nat → Int32) (M : sx_M) (fr lo dk ds : Nat) (z : Nat → Nat) (σ : Nat → Int) (c0 : sx_Pt) : Prop :=
  ∀ (p : Program) (l : Launch) (e : Env) (R : Room) (s : State) (m : MethodId) (args : Array Value) (below : List Frame) (meth : Method) (c : Code) (Q : State → Prop) (D : va_G) (cA : Nat → ClassId) (Fr : va_W) (A : Nat → Prop) (ρ : Nat → Option Nat) (k n : Nat),
    xZ (z 4) ns f s A → fr ≤ R.frames → lo ≤ R.locals → k + dk ≤ R.cells → n + ds ≤ R.slots → sx_CX p s m args meth c D cA z σ [] A wsL_law M.1.cls M.1.name M.2.1 M.2.2.1 →
    (∀ (H : Heap) (locs : List Loc) (ls : Array Slot), va_S A s.heap H locs → W p l e R s m args below meth c H locs (k + dk) (n + ds) Q (F0 m (sx_rpc M 318) ls [.int 1])) →
    sx_KM p l e R s m args below meth c Q D cA z σ Fr A M.2.2.1 (sx_rpc M c0.1) k n ρ c0.2.1 c0.2.2.1 c0.2.2.2.1 c0.2.2.2.2
section XE
variable {ns : Nat} {f : Nat → Int32} {M : sx_M} {fr lo dk ds dk1 ds1 : Nat} {z : Nat → Nat} {σ σ1 : Nat → Int} {c0 c1 : sx_Pt}
theorem xE.end {w : sx_W} {nx : Nat} (h : gx_H 0 M fr lo dk ds z σ c0 σ1 (318, [], [gn_c 1], w, nx)) : xE ns f M fr lo dk ds z σ c0 := by
  intro p l e R s m args below meth c Q D cA Fr A ρ k n hX hfr hlo hk hn C K
  refine h p l e R s m args below meth c Q D cA Fr A ρ k n hfr hlo hk hn C (fun ρ' _ => ?_)
  intro wl H locs hI hS ls lv st hl hL hSt
  have hSt : sx_RS ρ' z σ1 [gn_c 1] st := hSt
  match st, hSt with
  | [x], hSt =>
    obtain ⟨⟨y, h1, h2⟩, -⟩ := hSt
    have h2 : y = 1 := h2
    rw [h1, h2]
    exact K H locs ls hS
  | x :: y :: t, hSt => exact hSt.2.elim
theorem xE.seg (h : sx_SgF ns f wsL_law M fr lo dk1 ds1 z σ c0 c1) (h1 : xE ns f M fr lo dk ds z σ c1) : xE ns f M fr lo (dk1 + dk) (ds1 + ds) z σ c0 := by
  intro p l e R s m args below meth c Q D cA Fr A ρ k n hX hfr hlo hk hn C K
  refine h p l e R s m args below meth c Q D cA Fr A ρ k n hX hfr hlo (by omega) (by omega) C (fun ρ' _ => ?_)
  refine h1 p l e R s m args below meth c Q D cA Fr A ρ' _ _ hX hfr hlo (by omega) (by omega) C (fun H locs ls hS => ?_)
  rw [Nat.add_assoc, Nat.add_assoc]
  exact K H locs ls hS
theorem xE.use {r0 : Nat} {L0 : List (Nat × sx_V)} {S0 : List sx_V} {pre : List sx_C} (fs : List Nat) (γ : List (Nat × sx_F)) (θ : List (Nat × sx_I)) {c : sx_Pt} (hseg : ∀ z' : Nat → Nat, xE ns f M fr lo dk ds z' (sx_σi θ σ) (r0, L0, S0, sx_mkw 0 pre, pre.length)) (hr : c.1 = r0) (hck : sx_ckI fs γ θ L0 S0 pre c = true) : xE ns f M fr lo dk ds z σ c := by
  obtain ⟨r, L, S, w, nx⟩ := c
  have hr : r = r0 := hr
  subst hr
  have hck : (sx_ckc (sx_fi fs nx) γ θ w pre fs && sx_nod fs && sx_ckγ w γ && sx_ckL (sx_fi fs nx) γ θ L L0 && sx_eqS S (sx_iS (sx_fi fs nx) γ θ S0)) = true := hck
  rw [Bool.and_eq_true, Bool.and_eq_true, Bool.and_eq_true, Bool.and_eq_true] at hck
  obtain ⟨⟨⟨⟨k1, k2⟩, k3⟩, k4⟩, k5⟩ := hck
  have k5 := sx_eqS_ok k5
  intro p l e R s m args below meth c Q D cA Fr A ρ k n hX hfr hlo hk hn C K wl H locs hI hS ls lv st hl hLv hSt
  have hγ := sx_ckγ_ok hI.pi k3
  have hIs := (hI.pi.inst k1 k2 hγ).in hI.2.2.2.2.1 hI.2.2.2.2.2
  obtain ⟨lv0, l1, l2⟩ := sx_ckL_ok (sx_Ru_back hI.pi) hγ hLv k4
  obtain ⟨hx, hcc, hml, hts, hown, hK, hZ, hB, hA, hnm⟩ := C
  have hSt : sx_RS ρ z σ S st := hSt
  rw [k5] at hSt
  have hXs : xZ (sx_zi γ ρ z 4) ns f s A := by
    rw [show sx_zi γ ρ z 4 = z 4 from sx_zi_lo (by decide)]
    exact hX
  exact hseg (sx_zi γ ρ z) p l e R s m args below meth c Q D cA (sx_Fs ρ fs wl) A (sx_Ru ρ fs) k n hXs hfr hlo hk hn ⟨hx, hcc, hml, hts, hown, hK, hZ.zz (fun i hi => sx_zi_lo hi), fun q hq => (nomatch hq), hA, hnm⟩ K wl H locs hIs hS ls lv0 st ⟨hl.1, hl.2.1, fun x hx => hl.2.2 x (l2 x hx)⟩ l1 (sx_iS_back (sx_Ru_back hI.pi) hγ hSt)
end XE
/-! the law's numbers and the text -/
def xq (ns : Nat) (f : Nat → Int32) : gs_P := (n_m ns f 0, n_m ns f 1, n_by ns f, n_m ns f 2, n_m ns f 3, n_ot ns f, n_m ns f 4, n_m ns f 5, n_mo ns f, (n_lo ns f 12 6).toNat, (n_lo ns f 13 6).toNat)
def xsg (ns : Nat) (f : Nat → Int32) : gr_S := (decide (n_m ns f 0 < 0), decide (n_m ns f 1 < 0), decide (n_by ns f < 0), decide (n_m ns f 2 < 0), decide (n_m ns f 3 < 0), decide (n_ot ns f < 0), decide (n_m ns f 4 < 0), decide (n_m ns f 5 < 0))
theorem gs_sd (x : Int) : gs_s (decide (x < 0)) x := by
  by_cases h : x < 0
  · rw [decide_eq_true h]
    exact h
  · rw [decide_eq_false h]
    show 0 ≤ x
    omega
theorem xq_ok (ns : Nat) (f : Nat → Int32) : gs_ok (xq ns f) := by
  have h0 : -6 ≤ n_m ns f 0 ∧ n_m ns f 0 ≤ 6 := n_m_rg
  have h1 : -6 ≤ n_m ns f 1 ∧ n_m ns f 1 ≤ 6 := n_m_rg
  have h2 : -6 ≤ n_m ns f 2 ∧ n_m ns f 2 ≤ 6 := n_m_rg
  have h3 : -6 ≤ n_m ns f 3 ∧ n_m ns f 3 ≤ 6 := n_m_rg
  have h4 : -6 ≤ n_m ns f 4 ∧ n_m ns f 4 ≤ 6 := n_m_rg
  have h5 : -6 ≤ n_m ns f 5 ∧ n_m ns f 5 ≤ 6 := n_m_rg
  have h6 : -3 ≤ n_by ns f ∧ n_by ns f ≤ 3 ∧ n_by ns f ≠ 0 := n_by_rg
  have h7 : -2 ≤ n_ot ns f ∧ n_ot ns f ≤ 2 ∧ n_ot ns f ≠ 0 := n_ot_rg
  have h8 : 2 ≤ n_mo ns f ∧ n_mo ns f ≤ 41 := n_mo_rg
  have h9 : 0 ≤ n_lo ns f 12 6 ∧ n_lo ns f 12 6 ≤ 5 := n_lo6
  have ha : 0 ≤ n_lo ns f 13 6 ∧ n_lo ns f 13 6 ≤ 5 := n_lo6
  have hb : (n_lo ns f 12 6).toNat < 6 := by omega
  have hc : (n_lo ns f 13 6).toNat < 6 := by omega
  exact ⟨⟨h0.1, h0.2, h1.1, h1.2, h2.1, h2.2, h3.1, h3.2, h4.1, h4.2, h5.1, h5.2⟩, h6, h7, ⟨hb, hc⟩, h8⟩
theorem x_H (ns : Nat) (f : Nat → Int32) : grk_ok (xq ns f) (xsg ns f) gn_LB := ⟨gn_lb, xq_ok ns f, gs_sd _, gs_sd _, gs_sd _, gs_sd _, gs_sd _, gs_sd _, gs_sd _, gs_sd _⟩
theorem x_byte {ns : Nat} {f : Nat → Int32} {T : List sx_I} (hlow : ∀ e ∈ T, f_low e = true) {j : Nat} {e : sx_I} (h : T[j]? = some e) (hj : j < 80) : sx_ev (n_στ ns f T) e = n_στ ns f T (220 + j) := by
  have e1 : n_στ ns f T (220 + j) = sx_ev (n_σ ns f) e := by
    unfold n_στ
    rw [if_neg (by omega), if_pos (by omega), show 220 + j - 220 = j by omega, h]
  rw [e1]
  exact sx_ev_cong (fun q hq => n_στ_lo (.inl (by
    have h1 := List.all_eq_true.mp (hlow e (List.mem_of_getElem? h)) q hq
    have h2 : q.1 < 20 := Nat.le_of_ble_eq_true h1
    omega)))
theorem jθ_lo {o u : Nat} {σ : Nat → Int} (ho : o = 40 ∨ o = 60) (h1 : 220 ≤ u) (h2 : u < 220 + o) (h3 : u < 1000) : sx_σi (jθ o) σ u = σ u := gs_none (by
  cases e : sx_lk (jθ o) u with
  | none => rfl
  | some v =>
    exfalso
    have h9 := sx_lk_in e
    have k : (jθ o).all (fun q => Nat.blt q.1 220 || (Nat.ble (220 + o) q.1 || Nat.ble 1000 q.1)) = true := by
      rcases ho with rfl | rfl <;> decide
    have h8 := List.all_eq_true.mp k _ h9
    rw [Bool.or_eq_true, Bool.or_eq_true] at h8
    rcases h8 with h8 | h8 | h8
    · have : u < 220 := Nat.le_of_ble_eq_true h8
      omega
    · have : 220 + o ≤ u := Nat.le_of_ble_eq_true h8
      omega
    · have : 1000 ≤ u := Nat.le_of_ble_eq_true h8
      omega)
theorem pE_most {σ σ' : Nat → Int} (h8 : σ 8 = σ' 44) (h9 : σ 9 = σ' 45) (s : Bool) : pE σ σ' (xmost s) (cond (!s) [dg 44 false, dg 45 false] [dg 45 false]) := by
  cases s with
  | true => exact ⟨by simp only [sx_ev, sx_evl, dg, cond_false, gs_ofNat, h9], trivial⟩
  | false => exact ⟨by simp only [sx_ev, sx_evl, dg, cond_false, gs_ofNat, h8], by simp only [sx_ev, sx_evl, dg, cond_false, gs_ofNat, h9], trivial⟩
theorem x_text (a b c d e h1 g h : Bool) (q1 q2 : Nat) (s : Bool) (B : List sx_I) : xtext a b c d e h1 g h q1 q2 s ++ B = ([kc 40, kc 40] ++ xspan 0 1 6 a b c) ++ (wact q1 ++ (xspan 2 3 7 d e h1 ++ ([kc 41] ++ (wact q2 ++ (([kc 40] ++ (xa 4 g ++ ([kc 124] ++ (xa 5 h ++ [kc 41])))) ++ ([kc 41] ++ ([kc 92] ++ ([kc 32] ++ (xmost s ++ B))))))))) := by
  unfold xtext
  simp only [List.append_assoc, List.cons_append, List.nil_append]
theorem ln_x : ∀ a b c : Bool, (xspan 0 1 6 a b c).length = 13 + k3 a b c := by decide
theorem ln_y : ∀ a b c : Bool, (xspan 2 3 7 a b c).length = 13 + k3 a b c := by decide
theorem ln_o (u : Nat) (s : Bool) : (xa u s).length = 1 + bN s := by cases s <;> rfl
theorem ln_mo : ∀ s : Bool, (xmost s).length = 1 + bN (!s) := by decide
theorem pcode_op {q : Nat} (hq : q < 6) : (pcode q : Int) = gs_op q := by
  have h9 : q = 0 ∨ q = 1 ∨ q = 2 ∨ q = 3 ∨ q = 4 ∨ q = 5 := by omega
  rcases h9 with rfl | rfl | rfl | rfl | rfl | rfl <;> rfl
