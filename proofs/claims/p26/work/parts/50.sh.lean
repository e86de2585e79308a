/-! hooks don't look at what was made -/
theorem sx_prO_sh {fr lo t a b : Nat} {M : sx_M} {x : sx_R} {c c' : sx_S} (h : sx_prO fr lo t M x c = some c') : sx_prO fr lo t M x (sx_sh a b c) = some (sx_sh a b c') := by
  obtain ⟨r, L, S, w, nx, k, n⟩ := c
  unfold sx_prO at h ⊢
  simp only [sx_sh, cond_eq_ite] at h ⊢
  repeat' split at h
  all_goals first | (cases h; done) | (cases h; simp_all [sx_sh])
theorem sx_prNmin_sh {B : sx_Bs} {fr lo t a b : Nat} {M : sx_M} {x : sx_R} {c c' : sx_S} (h : sx_prNmin B fr lo t M x c = some c') : sx_prNmin B fr lo t M x (sx_sh a b c) = some (sx_sh a b c') := by
  obtain ⟨r, L, S, w, nx, k, n⟩ := c
  unfold sx_prNmin at h ⊢
  simp only [sx_sh, cond_eq_ite] at h ⊢
  repeat' split at h
  all_goals first | (cases h; done) | (cases h; simp_all [sx_sh])
theorem sx_prNmax_sh {B : sx_Bs} {fr lo t a b : Nat} {M : sx_M} {x : sx_R} {c c' : sx_S} (h : sx_prNmax B fr lo t M x c = some c') : sx_prNmax B fr lo t M x (sx_sh a b c) = some (sx_sh a b c') := by
  obtain ⟨r, L, S, w, nx, k, n⟩ := c
  unfold sx_prNmax at h ⊢
  simp only [sx_sh, cond_eq_ite] at h ⊢
  repeat' split at h
  all_goals first | (cases h; done) | (cases h; simp_all [sx_sh])
theorem sx_prB_sh {B : sx_Bs} {fr lo t a b : Nat} {M : sx_M} {x : sx_R} {c c' : sx_S} (h : sx_prB B fr lo t M x c = some c') : sx_prB B fr lo t M x (sx_sh a b c) = some (sx_sh a b c') := by
  obtain ⟨r, L, S, w, nx, k, n⟩ := c
  unfold sx_prB at h ⊢
  simp only [sx_sh, cond_eq_ite] at h ⊢
  repeat' split at h
  all_goals first | (cases h; done) | (cases h; simp_all [sx_sh])
theorem sx_prS_sh {B : sx_Bs} {a b : Nat} {x : sx_R} {c c' : sx_S} (h : sx_prS B x c = some c') : sx_prS B x (sx_sh a b c) = some (sx_sh a b c') := by
  obtain ⟨r, L, S, w, nx, k, n⟩ := c
  unfold sx_prS at h ⊢
  simp only [sx_sh, cond_eq_ite] at h ⊢
  repeat' split at h
  all_goals first | (cases h; done) | (cases h; simp_all [sx_sh])
theorem sx_prA_sh {B : sx_Bs} {fr lo t a b : Nat} {M : sx_M} {x : sx_R} {c c' : sx_S} (h : sx_prA B fr lo t M x c = some c') : sx_prA B fr lo t M x (sx_sh a b c) = some (sx_sh a b c') := by
  obtain ⟨r, L, S, w, nx, k, n⟩ := c
  unfold sx_prA at h ⊢
  simp only [sx_sh, cond_eq_ite] at h ⊢
  repeat' split at h
  all_goals first | (cases h; done) | (cases h; simp_all [sx_sh]; done) | (cases h; simp_all [sx_sh]; omega)
theorem sx_prm_sh (B : sx_Bs) : sx_shOK (sx_prm B) := by
  intro fr lo M x c c' a b h
  unfold sx_prm at h ⊢
  split at h
  · exact sx_prO_sh h
  · exact sx_prNmin_sh h
  · exact sx_prNmax_sh h
  · exact sx_prA_sh h
  · exact sx_prB_sh h
  · exact sx_prS_sh h
theorem sx_prW_sh (B : sx_Bs) : sx_shOK (sx_prW B) := by
  intro fr lo M x c c' a b h
  unfold sx_prW at h ⊢
  rw [sx_prep_sh]
  obtain ⟨r, L, S, w, nx, k, n⟩ := c
  simp only [sx_sh, cond_eq_ite] at h ⊢
  repeat' split at h
  all_goals first | (cases h; done) | (cases h; simp_all [sx_sh])
theorem sx_prV_sh : sx_shOK sx_prV := by
  intro fr lo M x c c' a b h
  unfold sx_prV at h ⊢
  rw [sx_prep_sh]
  obtain ⟨r, L, S, w, nx, k, n⟩ := c
  simp only [sx_sh, cond_eq_ite] at h ⊢
  repeat' split at h
  all_goals first | (cases h; done) | (cases h; simp_all [sx_sh]; omega) | (cases h; simp_all [sx_sh])
theorem sx_prQ_sh : sx_shOK sx_prQ := by
  intro fr lo M x c c' a b h
  unfold sx_prQ at h ⊢
  rw [sx_prep_sh]
  obtain ⟨r, L, S, w, nx, k, n⟩ := c
  simp only [sx_sh, cond_eq_ite] at h ⊢
  repeat' split at h
  all_goals first | (cases h; done) | (cases h; simp_all [sx_sh]; omega) | (cases h; simp_all [sx_sh])
theorem sx_prF_sh : sx_shOK sx_prF := by
  intro fr lo M x c c' a b h
  unfold sx_prF at h ⊢
  rw [sx_prep_sh]
  obtain ⟨r, L, S, w, nx, k, n⟩ := c
  simp only [sx_sh, cond_eq_ite] at h ⊢
  repeat' split at h
  all_goals first | (cases h; done) | (cases h; simp_all [sx_sh]; omega) | (cases h; simp_all [sx_sh]; done) | (cases h; simp_all [sx_sh]; rename_i hh; exact hh.2)
theorem sx_pra_sh (B : sx_Bs) : sx_shOK (sx_pra B) := by
  intro fr lo M x c c' a b h
  unfold sx_pra at h ⊢
  simp only [cond_eq_ite] at h ⊢
  split at h
  · rename_i h1
    rw [if_pos h1]
    exact sx_prW_sh B fr lo M x c c' a b h
  · rename_i h1
    rw [if_neg h1]
    split at h
    · rename_i h2
      rw [if_pos h2]
      exact sx_prV_sh fr lo M x c c' a b h
    · rename_i h2
      rw [if_neg h2]
      split at h
      · rename_i h3
        rw [if_pos h3]
        exact sx_prQ_sh fr lo M x c c' a b h
      · rename_i h3
        rw [if_neg h3]
        split at h
        · rename_i h4
          rw [if_pos h4]
          exact sx_prF_sh fr lo M x c c' a b h
        · rename_i h4
          rw [if_neg h4]
          exact sx_prm_sh B fr lo M x c c' a b h
