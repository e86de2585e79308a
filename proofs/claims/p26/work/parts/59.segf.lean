/-! segments for which the law's argument stands in the frame -/
abbrev sx_X4 (z : Nat → Nat) (cA : Nat → ClassId) (ns : Nat) (f : Nat → Int32) : Nat × va_E := (z 4, .inl (cA 0, ns, .inl f))
def sx_SgF (ns : Nat) (f : Nat → Int32) (tb : List Cond) (M : sx_M) (fr lo dk ds : Nat) (z : Nat → Nat) (σ : Nat → Int) (c0 c1 : sx_Pt) : Prop :=
  ∀ (p : Program) (l : Launch) (e : Env) (R : Room) (s : State) (m : MethodId) (args : Array Value) (below : List Frame) (meth : Method) (c : Code) (Q : State → Prop) (D : va_G) (cA : Nat → ClassId) (Fr : va_W) (A : Nat → Prop) (ρ : Nat → Option Nat) (k n : Nat),
    sx_X4 z cA ns f ∈ Fr → fr ≤ R.frames → lo ≤ R.locals → k + dk ≤ R.cells → n + ds ≤ R.slots → sx_CX p s m args meth c D cA z σ [] A tb M.1.cls M.1.name M.2.1 M.2.2.1 →
    (∀ ρ', sx_ge ρ ρ' → sx_KM p l e R s m args below meth c Q D cA z σ Fr A M.2.2.1 (sx_rpc M c1.1) (k + dk) (n + ds) ρ' c1.2.1 c1.2.2.1 c1.2.2.2.1 c1.2.2.2.2) →
    sx_KM p l e R s m args below meth c Q D cA z σ Fr A M.2.2.1 (sx_rpc M c0.1) k n ρ c0.2.1 c0.2.2.1 c0.2.2.2.1 c0.2.2.2.2
section SXF
variable {ns : Nat} {f : Nat → Int32} {tb : List Cond} {M : sx_M} {fr lo dk ds : Nat} {z : Nat → Nat} {σ : Nat → Int} {c0 c1 c2 : sx_Pt}
theorem sx_Sg.F (h : sx_Sg tb M fr lo dk ds z σ c0 c1) : sx_SgF ns f tb M fr lo dk ds z σ c0 c1 := fun p l e R s m args below meth c Q D cA Fr A ρ k n _ => h p l e R s m args below meth c Q D cA Fr A ρ k n
theorem sx_SgF.trans {dk1 ds1 dk2 ds2 : Nat} (h1 : sx_SgF ns f tb M fr lo dk1 ds1 z σ c0 c1) (h2 : sx_SgF ns f tb M fr lo dk2 ds2 z σ c1 c2) : sx_SgF ns f tb M fr lo (dk1 + dk2) (ds1 + ds2) z σ c0 c2 := by
  intro p l e R s m args below meth c Q D cA Fr A ρ k n hX hfr hlo hk hn C K
  refine h1 p l e R s m args below meth c Q D cA Fr A ρ k n hX hfr hlo (by omega) (by omega) C (fun ρ1 hg1 => ?_)
  refine h2 p l e R s m args below meth c Q D cA Fr A ρ1 _ _ hX hfr hlo (by omega) (by omega) C (fun ρ2 hg2 => ?_)
  rw [Nat.add_assoc, Nat.add_assoc]
  exact K ρ2 (hg1.tr hg2)
theorem sx_SgF.use {r0 r1 : Nat} {L0 L1 : List (Nat × sx_V)} {S0 S1 : List sx_V} {pre post : List sx_C} (fs : List Nat) (γ : List (Nat × sx_F)) (θ : List (Nat × sx_I)) {c : sx_Pt}
    (hseg : ∀ z' : Nat → Nat, ∃ w1, (∀ (i : Nat) (c : sx_C), post[i]? = some c → sx_look 12 w1 i = some c) ∧ sx_SgF ns f tb M fr lo dk ds z' (sx_σi θ σ) (r0, L0, S0, sx_mkw 0 pre, pre.length) (r1, L1, S1, w1, post.length)) (hr : c.1 = r0) (hlen : pre.length ≤ post.length) (hck : sx_ckI fs γ θ L0 S0 pre c = true) :
    sx_SgF ns f tb M fr lo dk ds z σ c (r1, sx_iU (sx_fi fs c.2.2.2.2) γ θ L1, sx_iS (sx_fi fs c.2.2.2.2) γ θ S1, sx_puts (sx_fi fs c.2.2.2.2) γ θ 0 post c.2.2.2.1, c.2.2.2.2 + (post.length - pre.length)) := by
  obtain ⟨r, L, S, w, nx⟩ := c
  have hr : r = r0 := hr
  subst hr
  have hck : (sx_ckc (sx_fi fs nx) γ θ w pre fs && sx_nod fs && sx_ckγ w γ && sx_ckL (sx_fi fs nx) γ θ L L0 && sx_eqS S (sx_iS (sx_fi fs nx) γ θ S0)) = true := hck
  rw [Bool.and_eq_true, Bool.and_eq_true, Bool.and_eq_true, Bool.and_eq_true] at hck
  obtain ⟨⟨⟨⟨k1, k2⟩, k3⟩, k4⟩, k5⟩ := hck
  have k5 := sx_eqS_ok k5
  intro p l e R s m args below meth c Q D cA Fr A ρ k n hX hfr hlo hk hn C K wl H locs hI hS ls lv st hl hLv hSt
  have hγ := sx_ckγ_ok hI.pi k3
  have hIs := (hI.pi.inst k1 k2 hγ).in hI.2.2.2.2.1 hI.2.2.2.2.2
  obtain ⟨w1, hpost, hsg⟩ := hseg (sx_zi γ ρ z)
  obtain ⟨lv0, l1, l2⟩ := sx_ckL_ok (sx_Ru_back hI.pi) hγ hLv k4
  obtain ⟨hx, hcc, hml, hts, hown, hK, hZ, hB, hA, hnm⟩ := C
  have hSt : sx_RS ρ z σ S st := hSt
  rw [k5] at hSt
  obtain ⟨⟨kX, hX1⟩, hX2⟩ := hI.2.2.2.1 _ hX
  have hXs : sx_X4 (sx_zi γ ρ z) cA ns f ∈ sx_Fs ρ fs wl := by
    have e4 : sx_zi γ ρ z 4 = z 4 := sx_zi_lo (by decide)
    show ((sx_zi γ ρ z 4, _) : Nat × va_E) ∈ _
    rw [e4]
    exact sx_Fs_in (List.mem_of_getElem? hX1) (fun i j _ => hX2 j)
  refine hsg p l e R s m args below meth c Q D cA (sx_Fs ρ fs wl) A (sx_Ru ρ fs) k n hXs hfr hlo hk hn ⟨hx, hcc, hml, hts, hown, hK, hZ.zz (fun i hi => sx_zi_lo hi), fun q hq => (nomatch hq), hA, hnm⟩ (fun ρ1 hg1 => ?_) wl H locs hIs hS ls lv0 st ⟨hl.1, hl.2.1, fun x hx => hl.2.2 x (l2 x hx)⟩ l1 (sx_iS_back (sx_Ru_back hI.pi) hγ hSt)
  intro wl1 H1 locs1 hI1 hS1 ls1 lv1 st1 hl1 hL1 hSt1
  obtain ⟨ρ2, g1, g2, g3⟩ := hI.pi.back k1 hγ hlen hg1 hpost hI1.pi
  exact K ρ2 g1 wl1 H1 locs1 (g3.in hI1.2.2.2.2.1 hI1.2.2.2.2.2) hS1 ls1 lv1 st1 hl1 (sx_iUl_fwd g2 g1 hγ hL1) (sx_iS_fwd g2 g1 hγ hSt1)
end SXF
theorem sx_ev1 (σ : Nat → Int) (u : Nat) : sx_ev σ (0, [(u, 1)]) = σ u := by
  show (0 : Int) + (1 * σ u + 0) = σ u
  omega
def l_low (v n : Int32) : Int32 := (v &&& 2147483647) - (v &&& 2147483647) / n * n
theorem sx_SgF.cell {ns : Nat} {f : Nat → Int32} {fr lo : Nat} {z : Nat → Nat} {σ : Nat → Int} {r nx kk u : Nat} {L : List (Nat × sx_V)} {S S0 : List sx_V} {w : sx_W} {x : sx_R} (hrow : sx_row sm_L_law r = some x) (hp : sx_prep sx_p9 x (r, L, S0, w, nx, 0, 0) = some (sm_L_cell, [.inr (.inr (some (.inr 4))), .inl (.inl (.ofNat kk, []))], S)) (h1 : 1 ≤ fr) (h2 : 2 + 19 ≤ lo) (h6 : sx_sl S ≤ 8) (hns : ns < 2 ^ 31) (hkk : kk ≤ 100) (hσ : σ u = (l_cell ns f kk).toInt) :
    sx_SgF ns f wsL_law sm_L_law fr lo 0 0 z σ (r, L, S0, w, nx) (r + 1, L, .inl (.inl (0, [(u, 1)])) :: S, w, nx) := by
  intro p l e R s m args below meth c Q D cA Fr A ρ k n hX hfr hlo hk hn C K
  have hok := (sx_p9_PG 59 sm_L_law rfl).2.2 _ _ hrow
  obtain ⟨pc0, ins, len, aux, cst⟩ := x
  have hpc : sx_rpc sm_L_law r = pc0 := by unfold sx_rpc; rw [hrow]
  show sx_KM p l e R s m args below meth c Q D cA z σ Fr A sm_L_law.2.2.1 (sx_rpc sm_L_law r) k n ρ L S0 w nx
  rw [hpc]
  have hp : sx_prep sx_p9 (pc0, ins, len, aux, cst) (r, L, S0, w, nx, k, n) = some (sm_L_cell, [.inr (.inr (some (.inr 4))), .inl (.inl (.ofNat kk, []))], S) := hp
  refine sx_call_ok (B := []) (rv := [.inl (.inl (0, [(u, 1)]))]) sx_p9_PG C sx_tb_ok sx_good hok hp h1 h2 hfr hlo h6 hk hn (fun wl xs sz hxs hPI => ?_) (fun ρ' hg => K ρ' hg)
  obtain ⟨o1, xs1, rfl, ho1, h2⟩ := hxs.ref
  obtain ⟨y1, xs2, rfl, hy1, h3⟩ := h2.int
  have := h3.nil
  subst this
  have hy1 : y1 = Int32.ofInt (sx_ev σ (sx_c (Int.ofNat kk))) := hy1
  rw [sx_ev_c] at hy1
  have e1 : y1 = nI kk := hy1.trans (Int32.ofInt_eq_ofNat (n := kk))
  subst e1
  have ho1 : o1 = some (z 4) := ho1.1 (by decide) (by decide)
  subst ho1
  obtain ⟨⟨q0, hq0⟩, -⟩ := hPI.2.2.2 _ hX
  refine (m_cell l (D := D) (z := z) (sz := sz) hq0 hns hkk).imp9 (fun a9 s9 o9 t9 hQ => ?_)
  obtain ⟨⟨v, u9, ho, hvv, hB9⟩, hF⟩ := hQ
  subst hvv
  refine ⟨⟨_, (ρ, wl), ho, ⟨sx_ge_rf ρ, ⟨sx_RVi ?_, trivial⟩, hPI⟩, hB9⟩, hF⟩
  show l_cell ns f kk = Int32.ofInt (sx_ev σ (0, [(u, 1)]))
  rw [sx_ev1, hσ, Int32.ofInt_toInt]
theorem sx_Sg.low {fr lo : Nat} {z : Nat → Nat} {σ : Nat → Int} {r nx n9 u : Nat} {e : sx_I} {L : List (Nat × sx_V)} {S S0 : List sx_V} {w : sx_W} {x : sx_R} (hrow : sx_row sm_L_law r = some x) (hp : sx_prep sx_p9 x (r, L, S0, w, nx, 0, 0) = some (sm_L_low, [.inl (.inl e), .inl (.inl (.ofNat n9, []))], S)) (h1 : 1 ≤ fr) (h2 : 2 + 19 ≤ lo) (h6 : sx_sl S ≤ 8) (hn9 : ¬ nI n9 = 0) (hσ : σ u = (l_low (Int32.ofInt (sx_ev σ e)) (nI n9)).toInt) :
    sx_Sg wsL_law sm_L_law fr lo 0 0 z σ (r, L, S0, w, nx) (r + 1, L, .inl (.inl (0, [(u, 1)])) :: S, w, nx) := by
  intro p l en R s m args below meth c Q D cA Fr A ρ k n hfr hlo hk hn C K
  have hok := (sx_p9_PG 59 sm_L_law rfl).2.2 _ _ hrow
  obtain ⟨pc0, ins, len, aux, cst⟩ := x
  have hpc : sx_rpc sm_L_law r = pc0 := by unfold sx_rpc; rw [hrow]
  show sx_KM p l en R s m args below meth c Q D cA z σ Fr A sm_L_law.2.2.1 (sx_rpc sm_L_law r) k n ρ L S0 w nx
  rw [hpc]
  have hp : sx_prep sx_p9 (pc0, ins, len, aux, cst) (r, L, S0, w, nx, k, n) = some (sm_L_low, [.inl (.inl e), .inl (.inl (.ofNat n9, []))], S) := hp
  refine sx_call_ok (B := []) (rv := [.inl (.inl (0, [(u, 1)]))]) sx_p9_PG C sx_tb_ok sx_good hok hp h1 h2 hfr hlo h6 hk hn (fun wl xs sz hxs hPI => ?_) (fun ρ' hg => K ρ' hg)
  obtain ⟨y0, xs1, rfl, hy0, h2⟩ := hxs.int
  obtain ⟨y1, xs2, rfl, hy1, h3⟩ := h2.int
  have := h3.nil
  subst this
  have hy1 : y1 = Int32.ofInt (sx_ev σ (sx_c (Int.ofNat n9))) := hy1
  rw [sx_ev_c] at hy1
  have e1 : y1 = nI n9 := hy1.trans (Int32.ofInt_eq_ofNat (n := n9))
  subst e1
  have hy0 : y0 = Int32.ofInt (sx_ev σ e) := hy0
  subst hy0
  refine (m_low l (D := D) (cA := cA) (z := z) (wl := wl) (sz := sz) (v := Int32.ofInt (sx_ev σ e)) hn9).imp9 (fun a9 s9 o9 t9 hQ => ?_)
  obtain ⟨⟨v, u9, ho, hvv, hB9⟩, hF⟩ := hQ
  subst hvv
  refine ⟨⟨_, (ρ, wl), ho, ⟨sx_ge_rf ρ, ⟨sx_RVi ?_, trivial⟩, hPI⟩, hB9⟩, hF⟩
  show l_low (Int32.ofInt (sx_ev σ e)) (nI n9) = Int32.ofInt (sx_ev σ (0, [(u, 1)]))
  rw [sx_ev1, hσ, Int32.ofInt_toInt]
