/-! segments: what a run in symbols says, for use in larger worlds -/
def sx_sh (a b : Nat) (c : sx_S) : sx_S := (c.1, c.2.1, c.2.2.1, c.2.2.2.1, c.2.2.2.2.1, c.2.2.2.2.2.1 + a, c.2.2.2.2.2.2 + b)
theorem sx_step1_sh {B : sx_Bs} {mx : Nat} {x : sx_R} {c : sx_S} {a b : Nat} : sx_step1 B mx x (sx_sh a b c) = (sx_step1 B mx x c).map (sx_sh a b) := by
  obtain ⟨r, L, S, w, nx, k, n⟩ := c
  show sx_step1 B mx x (r, L, S, w, nx, k + a, n + b) = _
  unfold sx_step1
  simp only
  cases sx_pure B mx x.2.1 L S with
  | some q => rfl
  | none =>
    cases sx_jmp B x.2.1 S with
    | some q => rfl
    | none =>
      cases sx_swi x.2.1 x.2.2.2.1 S with
      | some q => rfl
      | none =>
        cases sx_mem B x.2.1 x.2.2.2.1 x.2.2.2.2 L S w nx with
        | none => rfl
        | some q =>
          show some (_, _, _, _, _, k + a + q.2.2.2.2.1, n + b + q.2.2.2.2.2) = some (_, _, _, _, _, k + q.2.2.2.2.1 + a, n + q.2.2.2.2.2 + b)
          rw [Nat.add_right_comm k, Nat.add_right_comm n]
theorem sx_prep_sh {P : Nat → Option sx_M} {x : sx_R} {c : sx_S} {a b : Nat} : sx_prep P x (sx_sh a b c) = sx_prep P x c := by
  obtain ⟨r, L, S, w, nx, k, n⟩ := c
  rfl
def sx_shOK (pr : sx_Pr) : Prop := ∀ (fr lo : Nat) (M : sx_M) (x : sx_R) (c c' : sx_S) (a b : Nat), pr fr lo M x c = some c' → pr fr lo M x (sx_sh a b c) = some (sx_sh a b c')
theorem sx_ex_sh {P : Nat → Option sx_M} {B : sx_Bs} {pr : sx_Pr} (hpr : sx_shOK pr) : ∀ (n fr lo : Nat) (M : sx_M) (stop : Nat) (fst : Bool) (c c1 : sx_S) (a b : Nat), sx_ex P B pr n fr lo M stop fst c = some c1 → sx_ex P B pr n fr lo M stop fst (sx_sh a b c) = some (sx_sh a b c1)
  | 0, _, _, _, _, _, _, _, _, _, h => by cases h
  | n + 1, fr, lo, M, stop, fst, c, c1, a, b, h => by
    have IH := sx_ex_sh (P := P) (B := B) hpr n
    unfold sx_ex at h ⊢
    cases hst : (!fst && Nat.beq c.1 stop) with
    | true =>
      rw [show (!fst && Nat.beq (sx_sh a b c).1 stop) = true from hst]
      simp only [hst, cond_true] at h ⊢
      cases h
      rfl
    | false =>
      rw [show (!fst && Nat.beq (sx_sh a b c).1 stop) = false from hst]
      simp only [hst, cond_false] at h ⊢
      rw [show sx_row M (sx_sh a b c).1 = sx_row M c.1 from rfl]
      split at h
      · cases h
      · rename_i x hrow
        cases hret : sx_isret x.2.1 with
        | true =>
          simp only [hret, cond_true] at h ⊢
          cases h
          rfl
        | false =>
          simp only [hret, cond_false] at h ⊢
          rw [sx_step1_sh, sx_prep_sh]
          cases hst1 : sx_step1 B M.2.2.1 x c with
          | some c' =>
            rw [hst1] at h
            exact IH fr lo M stop false c' c1 a b h
          | none =>
            rw [hst1] at h
            cases hq : sx_prep P x c with
            | none =>
              rw [hq] at h
              cases hp : pr fr lo M x c with
              | some c' =>
                have h : (match pr fr lo M x c with
                  | some c' => sx_ex P B pr n fr lo M stop false c'
                  | none => none) = some c1 := h
                rw [hp] at h
                have h2 := hpr fr lo M x c c' a b hp
                show (match pr fr lo M x (sx_sh a b c) with
                  | some c' => sx_ex P B pr n fr lo M stop false c'
                  | none => none) = _
                rw [h2]
                exact IH fr lo M stop false c' c1 a b h
              | none =>
                have h : (match pr fr lo M x c with
                  | some c' => sx_ex P B pr n fr lo M stop false c'
                  | none => none) = some c1 := h
                rw [hp] at h
                cases h
            | some q =>
              rw [hq] at h
              show (bif Nat.ble 1 fr && Nat.ble (q.1.2.2.1 + 19) lo && Nat.ble (sx_sl q.2.1) q.1.2.2.1 && Nat.ble (sx_sl q.2.2) 8 then
                (match sx_ex P B pr n (fr - 1) (lo - (q.1.2.2.1 + 19)) q.1 100000 true (0, sx_ent 0 q.2.1, [], c.2.2.2.1, c.2.2.2.2.1, 0, 0) with
                | none => none
                | some c2 => (match sx_ret B q.1 c2 with
                  | none => none
                  | some rv => sx_ex P B pr n fr lo M stop false (c.1 + 1, c.2.1, rv ++ q.2.2, c2.2.2.2.1, c2.2.2.2.2.1, c.2.2.2.2.2.1 + a + c2.2.2.2.2.2.1, c.2.2.2.2.2.2 + b + c2.2.2.2.2.2.2))) else none) = _
              have h : (bif Nat.ble 1 fr && Nat.ble (q.1.2.2.1 + 19) lo && Nat.ble (sx_sl q.2.1) q.1.2.2.1 && Nat.ble (sx_sl q.2.2) 8 then
                (match sx_ex P B pr n (fr - 1) (lo - (q.1.2.2.1 + 19)) q.1 100000 true (0, sx_ent 0 q.2.1, [], c.2.2.2.1, c.2.2.2.2.1, 0, 0) with
                | none => none
                | some c2 => (match sx_ret B q.1 c2 with
                  | none => none
                  | some rv => sx_ex P B pr n fr lo M stop false (c.1 + 1, c.2.1, rv ++ q.2.2, c2.2.2.2.1, c2.2.2.2.2.1, c.2.2.2.2.2.1 + c2.2.2.2.2.2.1, c.2.2.2.2.2.2 + c2.2.2.2.2.2.2))) else none) = some c1 := h
              cases hgd : (Nat.ble 1 fr && Nat.ble (q.1.2.2.1 + 19) lo && Nat.ble (sx_sl q.2.1) q.1.2.2.1 && Nat.ble (sx_sl q.2.2) 8) with
              | false => simp only [hgd, cond_false] at h; cases h
              | true =>
                simp only [hgd, cond_true] at h ⊢
                cases hc2 : sx_ex P B pr n (fr - 1) (lo - (q.1.2.2.1 + 19)) q.1 100000 true (0, sx_ent 0 q.2.1, [], c.2.2.2.1, c.2.2.2.2.1, 0, 0) with
                | none => rw [hc2] at h; cases h
                | some c2 =>
                  simp only [hc2] at h ⊢
                  cases hrv : sx_ret B q.1 c2 with
                  | none => rw [hrv] at h; cases h
                  | some rv =>
                    simp only [hrv] at h ⊢
                    rw [Nat.add_right_comm c.2.2.2.2.2.1, Nat.add_right_comm c.2.2.2.2.2.2]
                    exact IH fr lo M stop false _ c1 a b h
/-- row, locals, stack, world, next id -/
abbrev sx_Pt : Type := Nat × List (Nat × sx_V) × List sx_V × sx_W × Nat
/-- from c0 the machine comes to c1, with at most dk new cells of ds slots -/
def sx_Sg (tb : List Cond) (M : sx_M) (fr lo dk ds : Nat) (z : Nat → Nat) (σ : Nat → Int) (c0 c1 : sx_Pt) : Prop :=
  ∀ (p : Program) (l : Launch) (e : Env) (R : Room) (s : State) (m : MethodId) (args : Array Value) (below : List Frame) (meth : Method) (c : Code) (Q : State → Prop) (D : va_G) (cA : Nat → ClassId) (Fr : va_W) (A : Nat → Prop) (ρ : Nat → Option Nat) (k n : Nat),
    fr ≤ R.frames → lo ≤ R.locals → k + dk ≤ R.cells → n + ds ≤ R.slots → sx_CX p s m args meth c D cA z σ [] A tb M.1.cls M.1.name M.2.1 M.2.2.1 →
    (∀ ρ', sx_ge ρ ρ' → sx_KM p l e R s m args below meth c Q D cA z σ Fr A M.2.2.1 (sx_rpc M c1.1) (k + dk) (n + ds) ρ' c1.2.1 c1.2.2.1 c1.2.2.2.1 c1.2.2.2.2) →
    sx_KM p l e R s m args below meth c Q D cA z σ Fr A M.2.2.1 (sx_rpc M c0.1) k n ρ c0.2.1 c0.2.2.1 c0.2.2.2.1 c0.2.2.2.2
section SXSG
variable {P : Nat → Option sx_M} {tb : List Cond} {B : sx_Bs} {pr : sx_Pr} {M : sx_M} {fr lo dk ds : Nat} {z : Nat → Nat} {σ : Nat → Int} {c0 c1 c2 : sx_Pt}
theorem sx_Sg.ex (hsnd : ∀ n, sx_SND P tb B pr n) (hsh : sx_shOK pr) (hM : ∃ mi, P mi = some M) (hB : sx_okB σ B) {f r0 r1 nx0 nx1 : Nat} {L0 L1 : List (Nat × sx_V)} {S0 S1 : List sx_V} {w0 w1 : sx_W} {stop : Nat} {b : Bool} (h : sx_ex P B pr f fr lo M stop b (r0, L0, S0, w0, nx0, 0, 0) = some (r1, L1, S1, w1, nx1, dk, ds)) : sx_Sg tb M fr lo dk ds z σ (r0, L0, S0, w0, nx0) (r1, L1, S1, w1, nx1) := by
  intro p l e R s m args below meth c Q D cA Fr A ρ k n hfr hlo hk hn C K
  have h2 := sx_ex_sh hsh f fr lo M stop b _ _ k n h
  obtain ⟨hx, hcc, hml, hts, hown, hK, hZ, -, hA, hnm⟩ := C
  have h3 : sx_ex P B pr f fr lo M stop b (r0, L0, S0, w0, nx0, k, n) = some (r1, L1, S1, w1, nx1, k + dk, n + ds) := by
    rw [Nat.add_comm k dk, Nat.add_comm n ds]
    have e : sx_sh k n (r0, L0, S0, w0, nx0, 0, 0) = (r0, L0, S0, w0, nx0, k, n) := by
      show (r0, L0, S0, w0, nx0, 0 + k, 0 + n) = _
      rw [Nat.zero_add, Nat.zero_add]
    rw [e] at h2
    exact h2
  exact (hsnd f fr lo M stop b _ _ hM h3).2 p l e R s m args below meth c Q D cA z σ Fr A ρ hfr hlo hk hn ⟨hx, hcc, hml, hts, hown, hK, hZ, hB, hA, hnm⟩ K
theorem sx_KM.widen {p : Program} {l : Launch} {e : Env} {R : Room} {s : State} {m : MethodId} {args : Array Value} {below : List Frame} {meth : Method} {c : Code} {Q : State → Prop} {D : va_G} {cA : Nat → ClassId} {Fr : va_W} {A : Nat → Prop} {nL pc k k' n n' : Nat} {ρ : Nat → Option Nat} {L : List (Nat × sx_V)} {S : List sx_V} {w : sx_W} {nx : Nat} (h1 : k ≤ k') (h2 : n ≤ n') (K : sx_KM p l e R s m args below meth c Q D cA z σ Fr A nL pc k' n' ρ L S w nx) : sx_KM p l e R s m args below meth c Q D cA z σ Fr A nL pc k n ρ L S w nx :=
  fun wl H locs hI hS ls lv st hl hL hSt => W.widen h1 h2 (K wl H locs hI hS ls lv st hl hL hSt)
theorem sx_Sg.mono {fr' lo' dk' ds' : Nat} (h : sx_Sg tb M fr lo dk ds z σ c0 c1) (h1 : fr ≤ fr') (h2 : lo ≤ lo') (h3 : dk ≤ dk') (h4 : ds ≤ ds') : sx_Sg tb M fr' lo' dk' ds' z σ c0 c1 := by
  intro p l e R s m args below meth c Q D cA Fr A ρ k n hfr hlo hk hn C K
  exact h p l e R s m args below meth c Q D cA Fr A ρ k n (Nat.le_trans h1 hfr) (Nat.le_trans h2 hlo) (by omega) (by omega) C (fun ρ' hg => (K ρ' hg).widen (by omega) (by omega))
theorem sx_Sg.trans {dk1 ds1 dk2 ds2 : Nat} (h1 : sx_Sg tb M fr lo dk1 ds1 z σ c0 c1) (h2 : sx_Sg tb M fr lo dk2 ds2 z σ c1 c2) : sx_Sg tb M fr lo (dk1 + dk2) (ds1 + ds2) z σ c0 c2 := by
  intro p l e R s m args below meth c Q D cA Fr A ρ k n hfr hlo hk hn C K
  refine h1 p l e R s m args below meth c Q D cA Fr A ρ k n hfr hlo (by omega) (by omega) C (fun ρ1 hg1 => ?_)
  refine h2 p l e R s m args below meth c Q D cA Fr A ρ1 _ _ hfr hlo (by omega) (by omega) C (fun ρ2 hg2 => ?_)
  rw [Nat.add_assoc, Nat.add_assoc]
  exact K ρ2 (hg1.tr hg2)
theorem sx_Sg.rf : sx_Sg tb M fr lo 0 0 z σ c0 c0 := fun p l e R s m args below meth c Q D cA Fr A ρ k n hfr hlo hk hn C K => K ρ (sx_ge_rf ρ)
/-- less is known behind -/
theorem sx_Sg.sub {r1 nx1 nx2 : Nat} {L1 L2 : List (Nat × sx_V)} {S1 : List sx_V} {w1 w2 : sx_W} (h : sx_Sg tb M fr lo dk ds z σ c0 (r1, L1, S1, w1, nx1)) (hw : ∀ i c, sx_look 12 w2 i = some c → sx_look 12 w1 i = some c) (hL : ∀ q ∈ L2, sx_lk L1 q.1 = some q.2) (hnx : nx1 ≤ nx2) : sx_Sg tb M fr lo dk ds z σ c0 (r1, L2, S1, w2, nx2) := by
  intro p l e R s m args below meth c Q D cA Fr A ρ k n hfr hlo hk hn C K
  refine h p l e R s m args below meth c Q D cA Fr A ρ k n hfr hlo hk hn C (fun ρ' hg => ?_)
  intro wl H locs hI hS ls lv st hl hLv hSt
  obtain ⟨i1, i2, i3, i4, i5, i6⟩ := hI
  have hl2 : ∀ (L2 : List (Nat × sx_V)), (∀ q ∈ L2, sx_lk L1 q.1 = some q.2) → ∃ lv2, sx_RLs ρ' z σ L2 lv2 ∧ ∀ x ∈ lv2, x ∈ lv := by
    intro L2
    induction L2 with
    | nil => exact fun _ => ⟨[], trivial, fun x hx => (nomatch hx)⟩
    | cons q t ih =>
      intro hq
      obtain ⟨lv2, a1, a2⟩ := ih (fun x hx => hq x (List.mem_cons_of_mem _ hx))
      obtain ⟨k9, x, b1, b2⟩ := hLv.at (hq q List.mem_cons_self)
      exact ⟨(q.1, x) :: lv2, ⟨rfl, b2, a1⟩, fun y hy => by
        rcases List.mem_cons.mp hy with rfl | hy
        · exact List.mem_of_getElem? b1
        · exact a2 y hy⟩
  obtain ⟨lv2, a1, a2⟩ := hl2 L2 hL
  refine K ρ' hg wl H locs ⟨fun i c9 hc => i1 i c9 (hw i c9 hc), fun i a hi => ⟨Nat.lt_of_lt_of_le (i2 i a hi).1 hnx, (i2 i a hi).2⟩, i3, i4, i5, i6⟩ hS ls lv2 st ⟨hl.1, hl.2.1, fun x hx => hl.2.2 x (a2 x hx)⟩ a1 hSt
end SXSG
