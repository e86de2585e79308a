/-! plans: segments, runs, calls -/
/-- what a plan's token asks for: 0 a segment, 1 a run to a row, 2 into the callee, 3 back out of it -/
abbrev sx_Tk : Type := Nat × Nat
/-- into the callee -/
noncomputable def sx_go (P : Nat → Option sx_M) (mi fr lo : Nat) (c : sx_Pt) : Option (Nat × Nat × List sx_V × List sx_V) := match P mi with
  | none => none
  | some M => (match sx_row M c.1 with
    | none => none
    | some x => (match sx_prep P x (c.1, c.2.1, c.2.2.1, c.2.2.2.1, c.2.2.2.2, 0, 0) with
      | none => none
      | some q => bif Nat.ble 1 fr && Nat.ble (q.1.2.2.1 + 19) lo && Nat.ble (sx_sl q.2.1) q.1.2.2.1 && Nat.ble (sx_sl q.2.2) 8 then some (x.2.2.2.1.getD 1 0, q.1.2.2.1, q.2.1, q.2.2) else none))
noncomputable def sx_rt (P : Nat → Option sx_M) (mi : Nat) (c : sx_Pt) : Option (List sx_V) := match P mi with
  | none => none
  | some M => sx_ret [] M (c.1, c.2.1, c.2.2.1, c.2.2.2.1, c.2.2.2.2, 0, 0)
noncomputable def sx_xr (P : Nat → Option sx_M) (Bb : sx_Bs) (pr : sx_Pr) (F mi fr lo stop : Nat) (c : sx_Pt) : Option (sx_Pt × Nat × Nat) := match P mi with
  | none => none
  | some M => (match sx_ex P Bb pr F fr lo M stop true (c.1, c.2.1, c.2.2.1, c.2.2.2.1, c.2.2.2.2, 0, 0) with
    | none => none
    | some d => some ((d.1, d.2.1, d.2.2.1, d.2.2.2.1, d.2.2.2.2.1), d.2.2.2.2.2.1, d.2.2.2.2.2.2))
noncomputable def sx_ag (Bb : sx_Bs) (mt : sx_Gt → sx_Pt → List Nat × List (Nat × sx_F) × List (Nat × sx_I)) (G : Nat → Option sx_Gt) (mi fr lo i : Nat) (c : sx_Pt) : Option (sx_Pt × Nat × Nat) := match G i with
  | none => none
  | some g => bif Nat.beq g.mi mi && Nat.ble g.fr fr && Nat.ble g.lo lo then (match sx_ap Bb g (mt g c) c with
    | none => none
    | some c' => some (c', g.dk, g.ds)) else none
noncomputable def sx_pl (P : Nat → Option sx_M) (Bb : sx_Bs) (pr : sx_Pr) (mt : sx_Gt → sx_Pt → List Nat × List (Nat × sx_F) × List (Nat × sx_I)) (G : Nat → Option sx_Gt) (F : Nat) : Nat → Nat → Nat → Nat → List sx_Tk → sx_Pt → Nat → Nat → Option (sx_Pt × List sx_Tk × Nat × Nat)
  | 0, _, _, _, _, _, _, _ => none
  | f + 1, fr, lo, mi, ts, c, k, n => match ts with
    | [] => some (c, [], k, n)
    | t :: ts => bif Nat.beq t.1 0 then (match sx_ag Bb mt G mi fr lo t.2 c with
        | none => none
        | some d => sx_pl P Bb pr mt G F f fr lo mi ts d.1 (k + d.2.1) (n + d.2.2)) else
      bif Nat.beq t.1 1 then (match sx_xr P Bb pr F mi fr lo t.2 c with
        | none => none
        | some d => sx_pl P Bb pr mt G F f fr lo mi ts d.1 (k + d.2.1) (n + d.2.2)) else
      bif Nat.beq t.1 2 then (match sx_go P mi fr lo c with
        | none => none
        | some q => (match sx_pl P Bb pr mt G F f (fr - 1) (lo - (q.2.1 + 19)) q.1 ts (0, sx_ent 0 q.2.2.1, [], c.2.2.2.1, c.2.2.2.2) 0 0 with
          | none => none
          | some d => (match sx_rt P q.1 d.1 with
            | none => none
            | some rv => sx_pl P Bb pr mt G F f fr lo mi d.2.1 (c.1 + 1, c.2.1, rv ++ q.2.2.2, d.1.2.2.2.1, d.1.2.2.2.2) (k + d.2.2.1) (n + d.2.2.2)))) else
      some (c, ts, k, n)
section SXPL
variable {P : Nat → Option sx_M} {tbs : List (List Cond)} {tb : List Cond} {Bb : sx_Bs} {pr : sx_Pr} {mt : sx_Gt → sx_Pt → List Nat × List (Nat × sx_F) × List (Nat × sx_I)} {G : Nat → Option sx_Gt} {F : Nat} {z : Nat → Nat} {σ : Nat → Int}
theorem sx_go_ok (hPG : sx_PG P tbs) {mi fr lo : Nat} {c : sx_Pt} {q : Nat × Nat × List sx_V × List sx_V} (h : sx_go P mi fr lo c = some q) : ∃ M M' x, P mi = some M ∧ sx_row M c.1 = some x ∧ P q.1 = some M' ∧ M'.2.2.1 = q.2.1 ∧ plainName M'.1.cls = true ∧ sx_prep P x (c.1, c.2.1, c.2.2.1, c.2.2.2.1, c.2.2.2.2, 0, 0) = some (M', q.2.2.1, q.2.2.2) ∧ 1 ≤ fr ∧ M'.2.2.1 + 19 ≤ lo ∧ sx_sl q.2.2.1 ≤ M'.2.2.1 ∧ sx_sl q.2.2.2 ≤ 8 := by
  unfold sx_go at h
  split at h
  · cases h
  · rename_i M hM
    split at h
    · cases h
    · rename_i x hx
      split at h
      · cases h
      · rename_i q' hq
        obtain ⟨M', vs, S'⟩ := q'
        cases hk : (Nat.ble 1 fr && Nat.ble (M'.2.2.1 + 19) lo && Nat.ble (sx_sl vs) M'.2.2.1 && Nat.ble (sx_sl S') 8) with
        | false => simp only [hk, cond_false] at h; cases h
        | true =>
          simp only [hk, cond_true] at h
          cases h
          rw [Bool.and_eq_true, Bool.and_eq_true, Bool.and_eq_true] at hk
          obtain ⟨⟨⟨k1, k2⟩, k3⟩, k4⟩ := hk
          have hok := (hPG mi M hM).2.2 _ _ hx
          obtain ⟨pc0, ins, len, aux, cst⟩ := x
          obtain ⟨kd, mj, n, ci, tl, e1, e2, e3, e4⟩ := sx_prep_M hq
          subst e1
          obtain ⟨-, -, h9⟩ := sx_okinv e4 hok
          exact ⟨M, M', _, hM, hx, e2, rfl, sx_okcall_plain h9 e3 e2, hq, Nat.le_of_ble_eq_true k1, Nat.le_of_ble_eq_true k2, Nat.le_of_ble_eq_true k3, Nat.le_of_ble_eq_true k4⟩
theorem sx_ag_ok (hG : ∀ i g, G i = some g → sx_VS tb P g) (hB : sx_okB σ Bb) {mi fr lo i : Nat} {c : sx_Pt} {d : sx_Pt × Nat × Nat} (hd : sx_ag Bb mt G mi fr lo i c = some d) {M : sx_M} (hM : P mi = some M) : sx_Sg tb M fr lo d.2.1 d.2.2 z σ c d.1 := by
  unfold sx_ag at hd
  split at hd
  · cases hd
  · rename_i g hg
    cases hk : (Nat.beq g.mi mi && Nat.ble g.fr fr && Nat.ble g.lo lo) with
    | false => rw [hk] at hd; cases hd
    | true =>
      rw [hk] at hd
      rw [Bool.and_eq_true, Bool.and_eq_true] at hk
      obtain ⟨⟨k1, k2⟩, k3⟩ := hk
      have k1 := Nat.eq_of_beq_eq_true k1
      cases hc9 : sx_ap Bb g (mt g c) c with
      | none => simp only [hc9, cond_true] at hd; cases hd
      | some c9 =>
        simp only [hc9, cond_true] at hd
        cases hd
        exact (sx_ap_ok (hG _ g hg) (by rw [k1]; exact hM) hB hc9).mono (Nat.le_of_ble_eq_true k2) (Nat.le_of_ble_eq_true k3) (Nat.le_refl _) (Nat.le_refl _)
theorem sx_xr_ok (hsnd : ∀ n, sx_SND P tb Bb pr n) (hsh : sx_shOK pr) (hB : sx_okB σ Bb) {mi fr lo stop : Nat} {c : sx_Pt} {d : sx_Pt × Nat × Nat} (hd : sx_xr P Bb pr F mi fr lo stop c = some d) {M : sx_M} (hM : P mi = some M) : sx_Sg tb M fr lo d.2.1 d.2.2 z σ c d.1 := by
  unfold sx_xr at hd
  rw [hM] at hd
  obtain ⟨r0, L0, S0, w0, nx0⟩ := c
  cases hd0 : sx_ex P Bb pr F fr lo M stop true (r0, L0, S0, w0, nx0, 0, 0) with
  | none => simp only [hd0] at hd; cases hd
  | some d0 =>
    simp only [hd0] at hd
    cases hd
    obtain ⟨r1, L1, S1, w1, nx1, dk, ds⟩ := d0
    exact sx_Sg.ex hsnd hsh ⟨mi, hM⟩ hB hd0
theorem sx_cl_ok (hPG : sx_PG P tbs) (htb : sx_tbOK tbs tb) (hgood : ∀ w ∈ tb, (w.onTables && w.keeps) = true ∨ ∃ ty, w = .arrayClass ty) {mi fr lo k1 n1 : Nat} {c d : sx_Pt} {q : Nat × Nat × List sx_V × List sx_V} {rv : List sx_V} (hq : sx_go P mi fr lo c = some q) (hrv : sx_rt P q.1 d = some rv) (a3 : ∀ M, P q.1 = some M → sx_Sg tb M (fr - 1) (lo - (q.2.1 + 19)) k1 n1 z σ (0, sx_ent 0 q.2.2.1, [], c.2.2.2.1, c.2.2.2.2) d) {M : sx_M} (hM : P mi = some M) : sx_Sg tb M fr lo k1 n1 z σ c (c.1 + 1, c.2.1, rv ++ q.2.2.2, d.2.2.2.1, d.2.2.2.2) := by
  obtain ⟨M9, M', x, b1, b2, b3, b4, b5, b6, b7, b8, b9, b10⟩ := sx_go_ok hPG hq
  rw [hM] at b1
  cases b1
  have a3 := a3 M' b3
  unfold sx_rt at hrv
  rw [b3] at hrv
  obtain ⟨r0, L0, S0, w0, nx0⟩ := c
  obtain ⟨r1, L1, S1, w1, nx1⟩ := d
  exact sx_Sg.call (B := []) hPG htb hgood hM b3 b2 b5 b6 b7 b8 (Nat.le_refl _) (by rw [b4]; exact Nat.le_refl _) b9 b10 (fun q hq => nomatch hq) a3 hrv
theorem sx_pl_ok (hPG : sx_PG P tbs) (htb : sx_tbOK tbs tb) (hgood : ∀ w ∈ tb, (w.onTables && w.keeps) = true ∨ ∃ ty, w = .arrayClass ty) (hsnd : ∀ n, sx_SND P tb Bb pr n) (hsh : sx_shOK pr) (hG : ∀ i g, G i = some g → sx_VS tb P g) (hB : sx_okB σ Bb) (f : Nat) : ∀ (fr lo mi : Nat) (ts ts' : List sx_Tk) (c c' : sx_Pt) (k n k' n' : Nat), sx_pl P Bb pr mt G F f fr lo mi ts c k n = some (c', ts', k', n') → k ≤ k' ∧ n ≤ n' ∧ ∀ M, P mi = some M → sx_Sg tb M fr lo (k' - k) (n' - n) z σ c c' := by
  induction f with
  | zero => intro fr lo mi ts ts' c c' k n k' n' h; cases h
  | succ f IH =>
    intro fr lo mi ts ts' c c' k n k' n' h
    have done : ∀ {c : sx_Pt} {k n : Nat}, k ≤ k ∧ n ≤ n ∧ ∀ M, P mi = some M → sx_Sg tb M fr lo (k - k) (n - n) z σ c c := fun {c k n} => ⟨Nat.le_refl _, Nat.le_refl _, fun M _ => by rw [Nat.sub_self, Nat.sub_self]; exact sx_Sg.rf⟩
    have step : ∀ {d : sx_Pt} {ts : List sx_Tk} {dk ds : Nat}, (∀ M, P mi = some M → sx_Sg tb M fr lo dk ds z σ c d) → sx_pl P Bb pr mt G F f fr lo mi ts d (k + dk) (n + ds) = some (c', ts', k', n') → k ≤ k' ∧ n ≤ n' ∧ ∀ M, P mi = some M → sx_Sg tb M fr lo (k' - k) (n' - n) z σ c c' := fun {d ts dk ds} h1 h2 => by
      obtain ⟨a1, a2, a3⟩ := IH _ _ _ _ _ _ _ _ _ _ _ h2
      exact ⟨by omega, by omega, fun M hM => ((h1 M hM).trans (a3 M hM)).mono (Nat.le_refl _) (Nat.le_refl _) (by omega) (by omega)⟩
    cases ts with
    | nil => cases h; exact done
    | cons t ts0 =>
      have h : (bif Nat.beq t.1 0 then (match sx_ag Bb mt G mi fr lo t.2 c with
        | none => none
        | some d => sx_pl P Bb pr mt G F f fr lo mi ts0 d.1 (k + d.2.1) (n + d.2.2)) else
      bif Nat.beq t.1 1 then (match sx_xr P Bb pr F mi fr lo t.2 c with
        | none => none
        | some d => sx_pl P Bb pr mt G F f fr lo mi ts0 d.1 (k + d.2.1) (n + d.2.2)) else
      bif Nat.beq t.1 2 then (match sx_go P mi fr lo c with
        | none => none
        | some q => (match sx_pl P Bb pr mt G F f (fr - 1) (lo - (q.2.1 + 19)) q.1 ts0 (0, sx_ent 0 q.2.2.1, [], c.2.2.2.1, c.2.2.2.2) 0 0 with
          | none => none
          | some d => (match sx_rt P q.1 d.1 with
            | none => none
            | some rv => sx_pl P Bb pr mt G F f fr lo mi d.2.1 (c.1 + 1, c.2.1, rv ++ q.2.2.2, d.1.2.2.2.1, d.1.2.2.2.2) (k + d.2.2.1) (n + d.2.2.2)))) else
      some (c, ts0, k, n)) = some (c', ts', k', n') := h
      cases t0 : Nat.beq t.1 0 with
      | true =>
        rw [t0, cond_true] at h
        cases hd : sx_ag Bb mt G mi fr lo t.2 c with
        | none => rw [hd] at h; cases h
        | some d => rw [hd] at h; exact step (fun M hM => sx_ag_ok hG hB hd hM) h
      | false =>
        rw [t0, cond_false] at h
        cases t1 : Nat.beq t.1 1 with
        | true =>
          rw [t1, cond_true] at h
          cases hd : sx_xr P Bb pr F mi fr lo t.2 c with
          | none => rw [hd] at h; cases h
          | some d => rw [hd] at h; exact step (fun M hM => sx_xr_ok hsnd hsh hB hd hM) h
        | false =>
          rw [t1, cond_false] at h
          cases t2 : Nat.beq t.1 2 with
          | true =>
            rw [t2, cond_true] at h
            cases hq : sx_go P mi fr lo c with
            | none => rw [hq] at h; cases h
            | some q =>
              rw [hq] at h
              cases hd : sx_pl P Bb pr mt G F f (fr - 1) (lo - (q.2.1 + 19)) q.1 ts0 (0, sx_ent 0 q.2.2.1, [], c.2.2.2.1, c.2.2.2.2) 0 0 with
              | none => simp only [hd] at h; cases h
              | some d =>
                simp only [hd] at h
                obtain ⟨d1, ts1, k1, n1⟩ := d
                cases hrv : sx_rt P q.1 d1 with
                | none => simp only [hrv] at h; cases h
                | some rv =>
                  simp only [hrv] at h
                  obtain ⟨a1, a2, a3⟩ := IH _ _ _ _ _ _ _ _ _ _ _ hd
                  exact step (fun M hM => sx_cl_ok hPG htb hgood hq hrv a3 hM) h
          | false =>
            rw [t2, cond_false] at h
            cases h
            exact done
end SXPL
