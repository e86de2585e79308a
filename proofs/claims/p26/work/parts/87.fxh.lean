/-! runs in small worlds hold in larger ones -/
/-- what kind of value a method gives: 10 .. 13 an int that fits, 1 a long, 2 a reference, 3 none -/
noncomputable def fx_rtk (ins : Instr) (ty : Option FieldType) : Nat := match ins, ty with
  | .ireturn, some ty => bif Nat.blt (sx_code ty) 4 then 10 + sx_code ty else 0
  | .lreturn, some .long => 1
  | .areturn, some (.object _) => 2
  | .areturn, some (.array _) => 2
  | .return_, none => 3
  | _, _ => 0
noncomputable def fx_rt (k : Nat) (B : sx_Bs) (S : List sx_V) : Option (List sx_V) := match S with
  | [] => bif Nat.beq k 3 then some [] else none
  | [.inl v] => bif Nat.ble 10 k && sx_fit B (k - 10) (.inl v) then some [.inl v] else none
  | [.inr (.inl v)] => bif Nat.beq k 1 then some [.inr (.inl v)] else none
  | [.inr (.inr v)] => bif Nat.beq k 2 then some [.inr (.inr v)] else none
  | _ => none
noncomputable def fx_ret (B : sx_Bs) (M : sx_M) (r : Nat) (S : List sx_V) : Option (List sx_V) := match fx_row M r with
  | none => none
  | some x => fx_rt (fx_rtk x.2.1 M.2.2.2.1) B S
theorem fx_ret_ok {B : sx_Bs} {M : sx_M} {r : Nat} {S rv : List sx_V} (h : fx_ret B M r S = some rv) (L : List (Nat × sx_V)) (w : sx_W) (nx k n : Nat) : sx_ret B M (r, L, S, w, nx, k, n) = some rv := by
  unfold fx_ret at h
  rw [fx_row_eq] at h
  unfold sx_ret
  cases hx : sx_row M r with
  | none => rw [hx] at h; cases h
  | some x =>
    rw [hx] at h
    have h : fx_rt (fx_rtk x.2.1 M.2.2.2.1) B S = some rv := h
    generalize hk : fx_rtk x.2.1 M.2.2.2.1 = kk at h
    unfold fx_rtk at hk
    unfold fx_rt at h
    split at hk
    · rename_i ty e1 e2
      simp only [e1, e2]
      cases hc : Nat.blt (sx_code ty) 4 with
      | false =>
        rw [hc, cond_false] at hk
        subst hk
        split at h <;> cases h
      | true =>
        rw [hc, cond_true] at hk
        subst hk
        split at h
        · have e : Nat.beq (10 + sx_code ty) 3 = false := by
            cases e : Nat.beq (10 + sx_code ty) 3 with
            | false => rfl
            | true => have := Nat.eq_of_beq_eq_true e; omega
          rw [e] at h; cases h
        · rw [Nat.add_sub_cancel_left, Nat.ble_eq_true_of_le (Nat.le_add_right _ _), Bool.true_and] at h
          simp only [hc, Bool.true_and]
          exact h
        · have e : Nat.beq (10 + sx_code ty) 1 = false := by
            cases e : Nat.beq (10 + sx_code ty) 1 with
            | false => rfl
            | true => have := Nat.eq_of_beq_eq_true e; omega
          rw [e] at h; cases h
        · have e : Nat.beq (10 + sx_code ty) 2 = false := by
            cases e : Nat.beq (10 + sx_code ty) 2 with
            | false => rfl
            | true => have := Nat.eq_of_beq_eq_true e; omega
          rw [e] at h; cases h
        · cases h
    · rename_i e1 e2
      simp only [e1, e2]
      subst hk
      split at h
      · cases h
      · cases h
      · exact h
      · cases h
      · cases h
    · rename_i nm e1 e2
      simp only [e1, e2]
      subst hk
      split at h
      · cases h
      · cases h
      · cases h
      · exact h
      · cases h
    · rename_i nm e1 e2
      simp only [e1, e2]
      subst hk
      split at h
      · cases h
      · cases h
      · cases h
      · exact h
      · cases h
    · rename_i e1 e2
      simp only [e1, e2]
      subst hk
      split at h
      · exact h
      · cases h
      · cases h
      · cases h
      · cases h
    · subst hk
      split at h <;> cases h
noncomputable def fx_kd (ins : Instr) : Nat := match ins with
  | .ireturn => 1
  | .lreturn => 1
  | .areturn => 1
  | .return_ => 1
  | .invokevirtual _ => 2
  | .invokespecial _ => 2
  | .invokestatic _ => 2
  | .lshr => 3
  | .lushr => 4
  | _ => 0
abbrev fx_H : Type := Nat → Nat → sx_M → Nat → Bool → Nat → List (Nat × sx_V) → List sx_V → fx_W → Nat → Nat → Nat → Option fx_S
/-- a shift by 63 whose sign is known -/
noncomputable def fx_sh (d : Int) (B : sx_Bs) (S : List sx_V) : Option (List sx_V) := match S with
  | .inl (.inl (b, [])) :: .inr (.inl e) :: S => bif sx_eq b 63 && sx_in B e 0 9223372036854775807 then some (.inr (.inl (sx_c 0)) :: S)
      else bif sx_eq b 63 && sx_in B e (-9223372036854775808) (-1) then some (.inr (.inl (sx_c d)) :: S) else none
  | _ => none
noncomputable def fx_hk (I : Nat → Bool) (B : sx_Bs) (h : Nat) (fr lo : Nat) (M : sx_M) (x : sx_R) (K : fx_K) (r : Nat) (L : List (Nat × sx_V)) (S : List sx_V) (w : fx_W) (nx k n : Nat) : Option fx_S :=
  bif Nat.ble 1000 h then (match x.2.2.2.1 with
    | [_, j, t] => bif fx_gd M x j t then (bif Nat.beq j 3 then (match fx_acp B fr lo S w with
        | some q => K (r + 1) L q.1 (fx_upd q.2.2 9 w q.2.1) nx k n
        | none => none) else (match fx_nat B j fr lo S with
        | some S1 => K (r + 1) L S1 w nx k n
        | none => none)) else none
    | _ => none)
  else bif Nat.beq h 1 then (match fx_hW B x.2.2.2.1 fr lo S w with
    | some S1 => K (r + 1) L S1 w nx k n
    | none => none)
  else bif Nat.beq h 228 then (match fx_hQ I x.2.2.2.1 fr lo S w with
    | some q => K (r + 1) L (sx_id nx :: q.1) (fx_upd q.2.1 9 w nx) (nx + 1) (k + 1) (n + q.2.2)
    | none => none)
  else bif Nat.beq h 9 then (match fx_hF x.2.2.2.1 fr lo S w with
    | some q => K (r + 1) L q.1 (fx_upd q.2.2 9 w q.2.1) nx k n
    | none => none) else none
noncomputable def fx_cl (B : sx_Bs) (ih : fx_H) (fr lo : Nat) (M : sx_M) (stop : Nat) (q : sx_M × List sx_V × List sx_V) (r : Nat) (L : List (Nat × sx_V)) (w : fx_W) (nx k n : Nat) : Option fx_S :=
  bif Nat.ble 1 fr && Nat.ble (q.1.2.2.1 + 19) lo && Nat.ble (fx_sl q.2.1) q.1.2.2.1 && Nat.ble (fx_sl q.2.2) 8 then
    (match ih (fr - 1) (lo - (q.1.2.2.1 + 19)) q.1 100000 true 0 (fx_ent q.2.1 0) [] w nx 0 0 with
    | none => none
    | some c2 => (match fx_ret B q.1 c2.1 c2.2.2.1 with
      | none => none
      | some rv => ih fr lo M stop false (r + 1) L (rv ++ q.2.2) c2.2.2.2.1 c2.2.2.2.2.1 (k + c2.2.2.2.2.2.1) (n + c2.2.2.2.2.2.2)))
  else none
noncomputable def fx_st (I : Nat → Bool) (B : sx_Bs) (ih : fx_H) (fr lo : Nat) (M : sx_M) (stop : Nat) (x : sx_R) (kd : Nat) (r : Nat) (L : List (Nat × sx_V)) (S : List sx_V) (w : fx_W) (nx k n : Nat) : Option fx_S :=
  bif Nat.beq kd 0 then fx_op I x.2.1 x.2.2.2.1 x.2.2.2.2 (ih fr lo M stop false) B M.2.2.1 r L S w nx k n
  else bif Nat.beq kd 1 then some (r, L, S, w, nx, k, n)
  else bif Nat.beq kd 2 then (bif Nat.beq (fx_hkn x.2.2.2.1) 0 then (match fx_prep sx_p9 x.2.2.2.1 S w with
      | none => none
      | some q => fx_cl B ih fr lo M stop q r L w nx k n)
    else fx_hk I B (fx_hkn x.2.2.2.1) fr lo M x (ih fr lo M stop false) r L S w nx k n)
  else (match sx_pure B M.2.2.1 x.2.1 L S with
    | some q => ih fr lo M stop false (r + 1) q.1 q.2 w nx k n
    | none => (match x.2.2.2.1 with
      | [] => (match fx_sh (bif Nat.beq kd 3 then -1 else 1) B S with
        | some S1 => ih fr lo M stop false (r + 1) L S1 w nx k n
        | none => none)
      | _ => none))
noncomputable def fx_ex (I : Nat → Bool) (B : sx_Bs) (n : Nat) : fx_H := Nat.rec (motive := fun _ => fx_H) (fun _ _ _ _ _ _ _ _ _ _ _ _ => none) (fun _ ih fr lo M stop fst r L S w nx k n => bif !fst && Nat.beq r stop then some (r, L, S, w, nx, k, n) else match fx_row M r with
    | none => none
    | some x => fx_st I B ih fr lo M stop x (fx_kd x.2.1) r L S w nx k n) n
/-- what a run in a small world says of every larger one -/
def fx_SM (I : Nat → Bool) (B : sx_Bs) (f : Nat) (fr lo : Nat) (M : sx_M) (stop : Nat) (fst : Bool) (r : Nat) (L : List (Nat × sx_V)) (S : List sx_V) (w : fx_W) (nx k n : Nat) (c1 : fx_S) : Prop :=
  ∀ (w' : sx_W), fx_le w w' → fx_pm I w nx w' → ∃ w1', sx_ex sx_p9 B (sx_pra B) f fr lo M stop fst (r, L, S, w', nx, k, n) = some (c1.1, c1.2.1, c1.2.2.1, w1', c1.2.2.2.2.1, c1.2.2.2.2.2.1, c1.2.2.2.2.2.2) ∧ fx_go w nx w' c1.2.2.2.1 c1.2.2.2.2.1 w1'
theorem fx_kd_inv {ins : Instr} (h : fx_kd ins = 2) : sx_isinv ins = true ∧ sx_isret ins = false := by
  cases ins <;> first
    | (exact ⟨rfl, rfl⟩)
    | (simp [fx_kd] at h)
theorem fx_kd_op {ins : Instr} (h : fx_kd ins = 0) : sx_isret ins = false := by
  cases ins <;> first
    | rfl
    | (simp [fx_kd] at h)
theorem fx_kd_ret {ins : Instr} (h : fx_kd ins = 1) : sx_isret ins = true := by
  cases ins <;> first
    | rfl
    | (simp [fx_kd] at h)
theorem fx_kd_sh {ins : Instr} (h0 : Nat.beq (fx_kd ins) 0 = false) (h1 : Nat.beq (fx_kd ins) 1 = false) (h2 : Nat.beq (fx_kd ins) 2 = false) : (ins = .lshr ∧ fx_kd ins = 3) ∨ (ins = .lushr ∧ fx_kd ins = 4) := by
  cases ins <;> first
    | (exact Or.inl ⟨rfl, rfl⟩)
    | (exact Or.inr ⟨rfl, rfl⟩)
    | (simp [fx_kd] at h0; done)
    | (simp [fx_kd] at h1; done)
    | (simp [fx_kd] at h2; done)
theorem fx_p9N : sx_p9 1 = none ∧ sx_p9 9 = none ∧ sx_p9 228 = none := ⟨rfl, rfl, rfl⟩
theorem fx_nprep {pc len j t : Nat} {ins : Instr} {cst : Int} {c : sx_S} : sx_prep sx_p9 (pc, ins, len, [9, j, t], cst) c = none := by
  unfold sx_prep
  cases sx_isinv ins <;> rfl
section FXS
variable {I : Nat → Bool} {B : sx_Bs} {f fr lo stop : Nat} {M : sx_M} {fst : Bool} {r nx k n : Nat} {L : List (Nat × sx_V)} {S : List sx_V} {w : fx_W} {c1 : fx_S}
/-- one row more in front -/
theorem fx_SM.step {r1 nx1 k1 n1 : Nat} {L1 : List (Nat × sx_V)} {S1 : List sx_V} {w1 : fx_W} (hf : (!fst && Nat.beq r stop) = false) {x : sx_R} (hx : sx_row M r = some x) (hret : sx_isret x.2.1 = false) (h : fx_SM I B f fr lo M stop false r1 L1 S1 w1 nx1 k1 n1 c1)
    (ho : ∀ (w' : sx_W), fx_le w w' → fx_pm I w nx w' → ∃ w1', fx_go w nx w' w1 nx1 w1' ∧ ((sx_step1 B M.2.2.1 x (r, L, S, w', nx, k, n) = some (r1, L1, S1, w1', nx1, k1, n1)) ∨ (sx_step1 B M.2.2.1 x (r, L, S, w', nx, k, n) = none ∧ sx_prep sx_p9 x (r, L, S, w', nx, k, n) = none ∧ sx_pra B fr lo M x (r, L, S, w', nx, k, n) = some (r1, L1, S1, w1', nx1, k1, n1)))) : fx_SM I B (f + 1) fr lo M stop fst r L S w nx k n c1 := by
  intro w' hw hI
  obtain ⟨w1', hg, ho⟩ := ho w' hw hI
  obtain ⟨w2', h2, hg2⟩ := h w1' hg.1 (hI.go hg)
  refine ⟨w2', ?_, hg.tr hg2⟩
  unfold sx_ex
  have hf : (!fst && Nat.beq (r, L, S, w', nx, k, n).1 stop) = false := hf
  have hx : sx_row M (r, L, S, w', nx, k, n).1 = some x := hx
  simp only [hf, cond_false, hx, hret]
  rcases ho with ho | ⟨o1, o2, o3⟩
  · rw [ho]
    exact h2
  · rw [o1]
    simp only [o2, o3]
    exact h2
end FXS
