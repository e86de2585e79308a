/-! the beginning of a segment, told otherwise: what unknowns are known to be -/
theorem sx_Sg.pre {tb : List Cond} {M : sx_M} {fr lo dk ds : Nat} {z : Nat → Nat} {σ : Nat → Int} {r0 nx : Nat} {L0 : List (Nat × sx_V)} {S0 : List sx_V} {w0 : sx_W} {cs : List sx_C} {c1 : sx_Pt} (θ : List (Nat × sx_I)) (hθ : ∀ q ∈ θ, sx_ev σ q.2 = σ q.1) (hw : sx_ckp w0 0 cs = true) (h : sx_Sg tb M fr lo dk ds z σ (r0, sx_iU (fun i => i) [] θ L0, sx_iS (fun i => i) [] θ S0, sx_mkw 0 (cs.map (sx_iC (fun i => i) [] θ)), nx) c1) : sx_Sg tb M fr lo dk ds z σ (r0, L0, S0, w0, nx) c1 := by
  have hσ : sx_σi θ σ = σ := by
    funext u
    unfold sx_σi
    cases hu : sx_lk θ u with
    | none => rfl
    | some v => exact hθ _ (sx_lk_in hu)
  intro p l e R s m args below meth c Q D cA Fr A ρ k n hfr hlo hk hn C K wl H locs hI hS ls lv st hl hL hSt
  have hz : sx_zi [] ρ z = z := by
    funext i
    unfold sx_zi
    split
    · rfl
    · rfl
  have hγ : ∀ q ∈ ([] : List (Nat × sx_F)), sx_okG ρ q := fun q hq => (nomatch hq)
  have hid : ∀ (i a : Nat), ρ i = some a → ρ ((fun i => i) i) = some a := fun i a h => h
  refine h p l e R s m args below meth c Q D cA Fr A ρ k n hfr hlo hk hn C K wl H locs ⟨?_, hI.2.1, hI.2.2.1, hI.2.2.2.1, hI.2.2.2.2.1, hI.2.2.2.2.2⟩ hS ls lv st hl (sx_iUl_fwd (ρ1 := ρ) hid (sx_ge_rf ρ) hγ (by rw [hz, hσ]; exact hL)) (sx_iS_fwd (ρ1 := ρ) hid (sx_ge_rf ρ) hγ (by rw [hz, hσ]; exact hSt))
  intro i c9 hc9
  obtain ⟨k9, e9, hk9⟩ := sx_mkw_look hc9
  rw [List.getElem?_map] at hk9
  obtain ⟨c8, hc8, rfl⟩ := Option.map_eq_some_iff.mp hk9
  obtain ⟨k7, a7, e7, q1, q2, q3⟩ := hI.1 i c8 (by rw [e9]; exact sx_ckp_ok hw k9 c8 hc8)
  exact ⟨k7, a7, e7, q1, q2, sx_iC_fwd (ρ1 := ρ) hid (sx_ge_rf ρ) hγ (by rw [hz, hσ]; exact q3)⟩
