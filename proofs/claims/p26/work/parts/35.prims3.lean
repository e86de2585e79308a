/-- the hooks, by number -/
noncomputable def sx_prm (B : sx_Bs) : sx_Pr := fun fr lo M x c => match x.2.2.2.1 with
  | [9, 0, t] => sx_prO fr lo t M x c
  | [9, 1, t] => sx_prNmin B fr lo t M x c
  | [9, 2, t] => sx_prNmax B fr lo t M x c
  | [9, 3, t] => sx_prA B fr lo t M x c
  | [9, 4, t] => sx_prB B fr lo t M x c
  | _ => sx_prS B x c
theorem sx_prm1 (B : sx_Bs) : sx_PR1 B (sx_prm B) := by
  intro fr lo M x c0 c1 h hok
  unfold sx_prm at h
  split at h
  · rename_i t hx
    exact sx_prO_ok B t fr lo M x c0 c1 h hok
  · rename_i t hx
    exact sx_prNmin_ok B t fr lo M x c0 c1 h hok
  · rename_i t hx
    exact sx_prNmax_ok B t fr lo M x c0 c1 h hok
  · rename_i t hx
    exact sx_prA_ok B t fr lo M x c0 c1 h hok
  · rename_i t hx
    exact sx_prB_ok B t fr lo M x c0 c1 h hok
  · exact sx_prS_ok B fr lo M x c0 c1 h hok
theorem sx_prm_ok (B : sx_Bs) : sx_PR sx_pg sx_tbs wsL_law B (sx_prm B) := by
  intro fr lo M x c0 c1 h hM hrow
  obtain ⟨mi, hM⟩ := hM
  have hok := (sx_prog mi M hM).2.2 c0.1 x hrow
  obtain ⟨h1, h2⟩ := sx_prm1 B fr lo M x c0 c1 h hok
  refine ⟨h1, fun p l e R s m args below meth c Q D cA z σ Fr A ρ hfr hlo hc hs C K => ?_⟩
  have hpc : sx_rpc M c0.1 = x.1 := by unfold sx_rpc; rw [hrow]
  rw [hpc]
  exact h2 p l e R s m args below meth c Q D cA z σ Fr A ρ hfr hlo hc hs C K
/-- THE READER OF THIS PROGRAM: a run in symbols says what the machine does -/
theorem sx_snd (B : sx_Bs) (n : Nat) : sx_SND sx_pg wsL_law B (sx_prm B) n := sx_sound sx_prog sx_tb_ok sx_good sx_cl (sx_prm_ok B) n
