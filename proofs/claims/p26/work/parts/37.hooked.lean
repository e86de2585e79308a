/-! the program with some calls done by contract -/
theorem sx_okcall_sub {P P' : Nat → Option sx_M} {tbs : List (List Cond)} {own : String} {ins : Instr} {aux : List Nat} (hsub : ∀ i M, P' i = some M → P i = some M) (h : sx_okcall P tbs own ins aux = true) : sx_okcall P' tbs own ins aux = true := by
  unfold sx_okcall at h ⊢
  split
  · rename_i kd mj n ci t1 t2 t3 t4 t5 t6
    cases hm : P' mj with
    | none => rfl
    | some M' =>
      have h9 := hsub _ _ hm
      simp only [h9] at h
      exact h
  · rename_i kd tl hne
    split at h
    · rename_i heq
      cases heq
      exact (hne _ _ _ _ _ _ _ _ _ rfl).elim
    · rename_i heq
      cases heq
      exact h
    · rename_i hnn
      exact absurd rfl (hnn _ _)
  · rfl
theorem sx_okR_sub {P P' : Nat → Option sx_M} {tbs : List (List Cond)} {M : sx_M} {r : Nat} {x : sx_R} (hsub : ∀ i M, P' i = some M → P i = some M) (h : sx_okR P tbs M r x = true) : sx_okR P' tbs M r x = true := by
  obtain ⟨pc0, ins, len, aux, cst⟩ := x
  unfold sx_okR at h ⊢
  rw [Bool.and_eq_true] at h ⊢
  refine ⟨h.1, ?_⟩
  have h2 := h.2
  clear h
  have two : ∀ {ins : Instr}, (sx_fall M r (pc0, ins, len, aux, cst) && sx_okcall P tbs M.1.cls ins aux) = true → (sx_fall M r (pc0, ins, len, aux, cst) && sx_okcall P' tbs M.1.cls ins aux) = true := by
    intro ins h
    rw [Bool.and_eq_true] at h ⊢
    exact ⟨h.1, sx_okcall_sub hsub h.2⟩
  cases ins <;> first | exact two h2 | exact h2
noncomputable def sx_pgh (hk : List Nat) (i : Nat) : Option sx_M := bif hk.any (fun j => Nat.beq j i) then none else sx_pg i
theorem sx_pgh_sub (hk : List Nat) : ∀ i M, sx_pgh hk i = some M → sx_pg i = some M := by
  intro i M h
  unfold sx_pgh at h
  cases hb : hk.any (fun j => Nat.beq j i) with
  | true => rw [hb] at h; cases h
  | false => rw [hb] at h; exact h
theorem sx_pgh_PG (hk : List Nat) : sx_PG (sx_pgh hk) sx_tbs := fun mi M h => by
  obtain ⟨h1, h3, h2⟩ := sx_prog mi M (sx_pgh_sub hk mi M h)
  exact ⟨h1, h3, fun r x hx => sx_okR_sub (sx_pgh_sub hk) (h2 r x hx)⟩
noncomputable def sx_prKM (B : sx_Bs) (Ks : List sx_Kt) : sx_Pr := fun fr lo M x c => match sx_prK Ks fr lo M x c with
  | some c' => some c'
  | none => sx_prm B fr lo M x c
theorem sx_prKM1 {B : sx_Bs} {Ks : List sx_Kt} (hKs : ∀ K ∈ Ks, sx_KV sx_pg B (sx_prm B) K) : sx_PR1 B (sx_prKM B Ks) := by
  intro fr lo M x c0 c1 h hok
  unfold sx_prKM at h
  split at h
  · rename_i c' hc
    cases h
    exact sx_prK_ok sx_prog (sx_snd B) hKs fr lo M x c0 _ hc hok
  · exact sx_prm1 B fr lo M x c0 c1 h hok
theorem sx_PR_of {P : Nat → Option sx_M} (hsub : ∀ i M, P i = some M → sx_pg i = some M) {B : sx_Bs} {f : sx_Pr} (hf : sx_PR1 B f) : sx_PR P sx_tbs wsL_law B f := by
  intro fr lo M x c0 c1 h hM hrow
  obtain ⟨mi, hM⟩ := hM
  have hok := (sx_prog mi M (hsub _ _ hM)).2.2 c0.1 x hrow
  obtain ⟨h1, h2⟩ := hf fr lo M x c0 c1 h hok
  refine ⟨h1, fun p l e R s m args below meth c Q D cA z σ Fr A ρ hfr hlo hc hs C K => ?_⟩
  have hpc : sx_rpc M c0.1 = x.1 := by unfold sx_rpc; rw [hrow]
  rw [hpc]
  exact h2 p l e R s m args below meth c Q D cA z σ Fr A ρ hfr hlo hc hs C K
/-- the soundness with contracts: hk are the methods that are never run, Ks what is known of them -/
theorem sx_sndK (hk : List Nat) {B : sx_Bs} {Ks : List sx_Kt} (hKs : ∀ K ∈ Ks, sx_KV sx_pg B (sx_prm B) K) (n : Nat) : sx_SND (sx_pgh hk) wsL_law B (sx_prKM B Ks) n := sx_sound (sx_pgh_PG hk) sx_tb_ok sx_good sx_cl (sx_PR_of (sx_pgh_sub hk) (sx_prKM1 hKs)) n
