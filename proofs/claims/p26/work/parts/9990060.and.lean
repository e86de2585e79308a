/-! one bit of a number that nobody knows -/
theorem sx_Sg.and {fr lo : Nat} {z : Nat → Nat} {σ : Nat → Int} {r pc nx u v : Nat} {cc : Int} {L : List (Nat × sx_V)} {S : List sx_V} {w : sx_W} (hpc : sx_rpc sm_L_law r = pc) (hpc1 : sx_rpc sm_L_law (r + 1) = pc + 1) (hd : decode sm_L_law.2.1 pc = .ok (.iand, 1)) (hσ : σ v = (Int32.ofInt (σ u) &&& Int32.ofInt cc).toInt) :
    sx_Sg wsL_law sm_L_law fr lo 0 0 z σ (r, L, .inl (.inl (cc, [])) :: .inl (.inl (0, [(u, 1)])) :: S, w, nx) (r + 1, L, .inl (.inl (0, [(v, 1)])) :: S, w, nx) := by
  intro p l e R s m args below meth c Q D cA Fr A ρ k n hfr hlo hk hn C K wl H locs hI hS ls lv st hl hLv hSt
  obtain ⟨y1, st1, rfl, hy1, h2⟩ := sx_RS.int hSt
  obtain ⟨y0, st2, rfl, hy0, h3⟩ := sx_RS.int h2
  have hy1 : y1 = Int32.ofInt (sx_ev σ (sx_c cc)) := hy1
  rw [sx_ev_c] at hy1
  have hy0 : y0 = Int32.ofInt (sx_ev σ (0, [(u, 1)])) := hy0
  rw [sx_ev1] at hy0
  subst hy0 hy1
  show W p l e R s m args below meth c H locs k n Q (F0 m (sx_rpc sm_L_law r) ls _)
  rw [hpc]
  refine lv_iand C.1 C.2.1 hd ?_
  have := K ρ (sx_ge_rf ρ) wl H locs hI hS ls lv (.int (Int32.ofInt (σ u) &&& Int32.ofInt cc) :: st2) hl hLv ⟨sx_RVi (show _ = Int32.ofInt (sx_ev σ (0, [(v, 1)])) by rw [sx_ev1, hσ, Int32.ofInt_toInt]), h3⟩
  rw [← hpc1]
  exact this
