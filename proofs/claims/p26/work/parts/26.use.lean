/-! a segment in a larger world -/
def sx_mkw : Nat → List sx_C → sx_W
  | _, [] => sx_emp 12
  | i, c :: cs => sx_upd c 12 (sx_mkw (i + 1) cs) i
theorem sx_mkw_look : ∀ {cs : List sx_C} {b j : Nat} {c : sx_C}, sx_look 12 (sx_mkw b cs) j = some c → ∃ k, j = b + k ∧ cs[k]? = some c
  | [], b, j, c, h => by
    have h : sx_look 12 (sx_emp 12 : sx_T sx_C 12) j = some c := h
    rw [sx_look_emp] at h
    cases h
  | c0 :: cs, b, j, c, h => by
    rcases sx_look_upd 12 h with ⟨h1, h2⟩ | ⟨-, h2⟩
    · exact ⟨0, h1, by rw [h2]; rfl⟩
    · obtain ⟨k, h3, h4⟩ := sx_mkw_look h2
      exact ⟨k + 1, by omega, h4⟩
/-- where the ids of the pattern go -/
def sx_fi (fs : List Nat) (nx i : Nat) : Nat := match fs[i]? with
  | some j => j
  | none => nx + (i - fs.length)
def sx_puts (f : Nat → Nat) (γ : List (Nat × sx_F)) (θ : List (Nat × sx_I)) : Nat → List sx_C → sx_W → sx_W
  | _, [], w => w
  | i, c :: cs, w => sx_upd (sx_iC f γ θ c) 12 (sx_puts f γ θ (i + 1) cs w) (f i)
theorem sx_puts_look {f : Nat → Nat} {γ : List (Nat × sx_F)} {θ : List (Nat × sx_I)} {w : sx_W} : ∀ {cs : List sx_C} {b j : Nat} {c : sx_C}, sx_look 12 (sx_puts f γ θ b cs w) j = some c → (∃ k c0, cs[k]? = some c0 ∧ j = f (b + k) ∧ c = sx_iC f γ θ c0) ∨ (sx_look 12 w j = some c ∧ ∀ k, k < cs.length → j ≠ f (b + k))
  | [], b, j, c, h => Or.inr ⟨h, fun k hk => absurd hk (Nat.not_lt_zero k)⟩
  | c0 :: cs, b, j, c, h => by
    rcases sx_look_upd 12 h with ⟨h1, h2⟩ | ⟨h1, h2⟩
    · exact Or.inl ⟨0, c0, rfl, h1, h2⟩
    · rcases sx_puts_look h2 with ⟨k, c1, h3, h4, h5⟩ | ⟨h3, h4⟩
      · exact Or.inl ⟨k + 1, c1, h3, by rw [h4, show b + 1 + k = b + (k + 1) by omega], h5⟩
      · refine Or.inr ⟨h3, fun k hk => ?_⟩
        cases k with
        | zero => exact h1
        | succ k => rw [show b + (k + 1) = b + 1 + k by omega]; exact h4 k (by have : (c0 :: cs).length = cs.length + 1 := rfl; omega)
/-- a pattern's run -/
def sx_Sm (tb : List Cond) (M : sx_M) (fr lo dk ds : Nat) (z : Nat → Nat) (σ : Nat → Int) (r0 : Nat) (L0 : List (Nat × sx_V)) (S0 : List sx_V) (pre : List sx_C) (r1 : Nat) (L1 : List (Nat × sx_V)) (S1 : List sx_V) (post : List sx_C) : Prop :=
  ∃ w1, (∀ (i : Nat) (c : sx_C), post[i]? = some c → sx_look 12 w1 i = some c) ∧ sx_Sg tb M fr lo dk ds z σ (r0, L0, S0, sx_mkw 0 pre, pre.length) (r1, L1, S1, w1, post.length)
def sx_ckc (f : Nat → Nat) (γ : List (Nat × sx_F)) (θ : List (Nat × sx_I)) (w : sx_W) : List sx_C → List Nat → Bool
  | [], [] => true
  | c :: cs, j :: js => sx_eqCo (sx_look 12 w j) (sx_iC f γ θ c) && sx_ckc f γ θ w cs js
  | _, _ => false
theorem sx_ckc_ok {f : Nat → Nat} {γ : List (Nat × sx_F)} {θ : List (Nat × sx_I)} {w : sx_W} : ∀ {cs : List sx_C} {js : List Nat}, sx_ckc f γ θ w cs js = true → cs.length = js.length ∧ ∀ (i : Nat) (c : sx_C), cs[i]? = some c → ∃ j, js[i]? = some j ∧ sx_look 12 w j = some (sx_iC f γ θ c)
  | [], [], _ => ⟨rfl, fun i c h => by cases h⟩
  | c0 :: cs, j :: js, h => by
    have h : (sx_eqCo (sx_look 12 w j) (sx_iC f γ θ c0) && sx_ckc f γ θ w cs js) = true := h
    rw [Bool.and_eq_true] at h
    obtain ⟨h1, h2⟩ := sx_ckc_ok h.2
    refine ⟨by show cs.length + 1 = js.length + 1; rw [h1], fun i c hc => ?_⟩
    cases i with
    | zero => cases hc; exact ⟨j, rfl, sx_eqCo_ok h.1⟩
    | succ i => exact h2 i c hc
  | [], _ :: _, h => by cases h
  | _ :: _, [], h => by cases h
def sx_nod : List Nat → Bool
  | [] => true
  | x :: t => t.all (fun y => !Nat.beq x y) && sx_nod t
theorem sx_nod_ok : ∀ {l : List Nat}, sx_nod l = true → ∀ (i i' j : Nat), l[i]? = some j → l[i']? = some j → i = i'
  | [], _, i, i', j, h, _ => by cases h
  | x :: t, h, i, i', j, h1, h2 => by
    have h : (t.all (fun y => !Nat.beq x y) && sx_nod t) = true := h
    rw [Bool.and_eq_true] at h
    have ne : ∀ (k : Nat) (y : Nat), t[k]? = some y → x ≠ y := fun k y hk e => by
      have := List.all_eq_true.mp h.1 y (List.mem_of_getElem? hk)
      rw [e, show Nat.beq y y = true from Nat.beq_refl y] at this
      cases this
    cases i with
    | zero =>
      cases i' with
      | zero => rfl
      | succ i' => cases h1; exact absurd rfl (ne i' _ h2)
    | succ i =>
      cases i' with
      | zero => cases h2; exact absurd rfl (ne i _ h1)
      | succ i' => rw [sx_nod_ok h.2 i i' j h1 h2]
def sx_ckγ (w : sx_W) (γ : List (Nat × sx_F)) : Bool := γ.all fun q => match q.2 with
  | none => Nat.ble 2000 q.1
  | some (.inl i) => (sx_look 12 w i).isSome
  | some (.inr x) => !(Nat.beq x 3) && (Nat.ble 2000 q.1 || Nat.blt x 2000)
def sx_ckL (f : Nat → Nat) (γ : List (Nat × sx_F)) (θ : List (Nat × sx_I)) (L : List (Nat × sx_V)) (L0 : List (Nat × sx_V)) : Bool := L0.all fun q => match sx_lk L q.1 with
  | some v => sx_eqV v (sx_iV f γ θ q.2)
  | none => false
def sx_Ru (ρ : Nat → Option Nat) (fs : List Nat) (i : Nat) : Option Nat := match fs[i]? with
  | some j => ρ j
  | none => none
def sx_Fs (ρ : Nat → Option Nat) (fs : List Nat) (wl : va_W) : va_W := wl.filter (fun x => fs.all (fun j => decide (ρ j ≠ some x.1)))
theorem sk_tab_lt : ∀ q ∈ sk_tab, q.2.2.2 < 33 := fun q hq => Nat.le_of_ble_eq_true (List.all_eq_true.mp (show sk_tab.all (fun q => Nat.ble (q.2.2.2 + 1) 33) = true by decide +kernel) q hq)
theorem SR.zz {z z' : Nat → Nat} {A : Nat → Prop} {U : State} {H : Heap} (h : SR z A U H) (hz : ∀ k, k < 1000 → z' k = z k) : SR z' A U H := by
  obtain ⟨h1, h2, h3, h4, h5, h6, h7, h8, h9, ha, hb⟩ := h
  refine ⟨by rw [hz 0 (by omega)]; exact h1, by rw [hz 0 (by omega)]; exact h2, h3, by rw [hz 1 (by omega)]; exact h4, by rw [hz 1 (by omega)]; exact h5, by rw [hz 2 (by omega)]; exact h6, by rw [hz 2 (by omega)]; exact h7, h8, ?_, ?_, hb⟩
  · refine ⟨fun i hi => ?_, fun i j hi hj e => h9.2 i j hi hj ?_⟩
    · show va_O "java/lang/String" (z' (100 + 2 * i)) A U H ∧ va_OF "java/lang/String" "coder" "B" (.int 0) (z' (100 + 2 * i)) A U H ∧ va_OF "java/lang/String" "value" "[B" (.ref (z' (101 + 2 * i))) (z' (100 + 2 * i)) A U H ∧ va_T .byte (z' (101 + 2 * i)) (sk_len.getD i 0) (fun j => .int ((sk_byt.getD i []).getD j 0)) A U H
      rw [hz (100 + 2 * i) (by omega), hz (101 + 2 * i) (by omega)]
      exact h9.1 i hi
    · have e : z' (100 + 2 * i) = z' (100 + 2 * j) := e
      rw [hz (100 + 2 * i) (by omega), hz (100 + 2 * j) (by omega)] at e
      exact e
  · intro q hq
    have : q.2.2.2 < 33 := sk_tab_lt q hq
    rw [hz (100 + 2 * q.2.2.2) (by omega)]
    exact ha q hq
section SXU
variable {D : va_G} {cA : Nat → ClassId} {ρ : Nat → Option Nat} {z : Nat → Nat} {σ : Nat → Int} {Fr : va_W} {A : Nat → Prop} {w ws : sx_W} {nx m : Nat} {wl : va_W} {H : Heap} {fs : List Nat} {γ : List (Nat × sx_F)} {θ : List (Nat × sx_I)}
theorem sx_Ru_some {i a : Nat} (h : sx_Ru ρ fs i = some a) : ∃ j, fs[i]? = some j ∧ ρ j = some a := by
  unfold sx_Ru at h
  cases hj : fs[i]? with
  | none => rw [hj] at h; cases h
  | some j => rw [hj] at h; exact ⟨j, rfl, h⟩
theorem sx_Ru_at {i j : Nat} (h : fs[i]? = some j) : sx_Ru ρ fs i = ρ j := by unfold sx_Ru; rw [h]
theorem sx_fi_at {i j : Nat} (h : fs[i]? = some j) : sx_fi fs nx i = j := by unfold sx_fi; rw [h]
theorem sx_fi_new {i : Nat} (h : fs.length ≤ i) : sx_fi fs nx i = nx + (i - fs.length) := by unfold sx_fi; rw [List.getElem?_eq_none h]
theorem sx_Fs_in {x : Nat × va_E} (h1 : x ∈ wl) (h2 : ∀ (i j : Nat), fs[i]? = some j → ρ j ≠ some x.1) : x ∈ sx_Fs ρ fs wl := by
  refine List.mem_filter.mpr ⟨h1, List.all_eq_true.mpr fun j hj => ?_⟩
  obtain ⟨i, hi⟩ := List.getElem?_of_mem hj
  exact decide_eq_true (h2 i j hi)
theorem sx_Fs_out {x : Nat × va_E} (h : x ∈ sx_Fs ρ fs wl) : x ∈ wl ∧ ∀ i, sx_Ru ρ fs i ≠ some x.1 := by
  obtain ⟨h1, h2⟩ := List.mem_filter.mp h
  refine ⟨h1, fun i hi => ?_⟩
  obtain ⟨j, hj, ha⟩ := sx_Ru_some hi
  exact of_decide_eq_true (List.all_eq_true.mp h2 j (List.mem_of_getElem? hj)) ha
/-- the pattern's ids stand for what the instance's ids stand for -/
theorem sx_Ru_back (hI : sx_PI cA ρ z σ Fr w nx wl) : ∀ i a, ρ (sx_fi fs nx i) = some a → sx_Ru ρ fs i = some a := by
  intro i a h
  cases hj : fs[i]? with
  | some j => rw [sx_fi_at hj] at h; rw [sx_Ru_at hj]; exact h
  | none =>
    have hl : fs.length ≤ i := List.getElem?_eq_none_iff.mp hj
    rw [sx_fi_new hl] at h
    have := (hI.2.1 _ a h).1
    omega
theorem sx_ckγ_ok (hI : sx_PI cA ρ z σ Fr w nx wl) (h : sx_ckγ w γ = true) : ∀ q ∈ γ, sx_okG ρ q := by
  intro q hq
  have := List.all_eq_true.mp h q hq
  unfold sx_okG
  split
  · rename_i e
    rw [e] at this
    exact Nat.le_of_ble_eq_true this
  · rename_i i e
    rw [e] at this
    have this : (sx_look 12 w i).isSome = true := this
    obtain ⟨c, hc⟩ := Option.isSome_iff_exists.mp this
    obtain ⟨k, a, e9, h1, h2, h3⟩ := hI.1 i c hc
    exact ⟨a, h2⟩
  · rename_i x e
    rw [e] at this
    have this : (!(Nat.beq x 3) && (Nat.ble 2000 q.1 || Nat.blt x 2000)) = true := this
    rw [Bool.and_eq_true, Bool.or_eq_true] at this
    refine ⟨fun e => ?_, ?_⟩
    · rw [e] at this; exact absurd this.1 (by decide)
    · rcases this.2 with h | h
      · exact Or.inl (Nat.le_of_ble_eq_true h)
      · exact Or.inr (Nat.le_of_ble_eq_true h)
theorem sx_PI.inst {pre : List sx_C} (hI : sx_PI cA ρ z σ Fr w nx wl) (hc : sx_ckc (sx_fi fs nx) γ θ w pre fs = true) (hn : sx_nod fs = true) (hγ : ∀ q ∈ γ, sx_okG ρ q) : sx_PI cA (sx_Ru ρ fs) (sx_zi γ ρ z) (sx_σi θ σ) (sx_Fs ρ fs wl) (sx_mkw 0 pre) pre.length wl := by
  obtain ⟨hlen, hck⟩ := sx_ckc_ok hc
  refine ⟨?_, ?_, ?_, ?_⟩
  · intro i c hi
    obtain ⟨k, e, h1⟩ := sx_mkw_look hi
    rw [show i = k by omega]
    obtain ⟨j, h2, h3⟩ := hck k c h1
    obtain ⟨k9, a, e9, g1, g2, g3⟩ := hI.1 j _ h3
    exact ⟨k9, a, e9, g1, by rw [sx_Ru_at h2]; exact g2, sx_iC_back (sx_Ru_back hI) hγ g3⟩
  · intro i a hi
    obtain ⟨j, h1, h2⟩ := sx_Ru_some hi
    exact ⟨by rw [hlen]; exact (List.getElem?_eq_some_iff.mp h1).1, (hI.2.1 j a h2).2⟩
  · intro i i' a hi hi'
    obtain ⟨j, h1, h2⟩ := sx_Ru_some hi
    obtain ⟨j', h1', h2'⟩ := sx_Ru_some hi'
    have := hI.2.2.1 j j' a h2 h2'
    subst this
    exact sx_nod_ok hn i i' j h1 h1'
  · intro x hx
    obtain ⟨h1, h2⟩ := sx_Fs_out hx
    exact ⟨List.getElem?_of_mem h1, h2⟩
theorem sx_ckL_ok {lv : List (Nat × Value)} {L : List (Nat × sx_V)} (hρ : ∀ i a, ρ (sx_fi fs nx i) = some a → sx_Ru ρ fs i = some a) (hγ : ∀ q ∈ γ, sx_okG ρ q) (hL : sx_RLs ρ z σ L lv) : ∀ {L0 : List (Nat × sx_V)}, sx_ckL (sx_fi fs nx) γ θ L L0 = true → ∃ lv0, sx_RLs (sx_Ru ρ fs) (sx_zi γ ρ z) (sx_σi θ σ) L0 lv0 ∧ ∀ x ∈ lv0, x ∈ lv
  | [], _ => ⟨[], trivial, fun x hx => (nomatch hx)⟩
  | q :: t, h => by
    have h := List.all_eq_true.mp h
    obtain ⟨lv0, a1, a2⟩ := sx_ckL_ok hρ hγ hL (L0 := t) (List.all_eq_true.mpr fun x hx => h x (List.mem_cons_of_mem _ hx))
    have hq := h q List.mem_cons_self
    split at hq
    · rename_i v hv
      have := sx_eqV_ok hq
      subst this
      obtain ⟨k9, x, b1, b2⟩ := hL.at hv
      exact ⟨(q.1, x) :: lv0, ⟨rfl, sx_iV_back hρ hγ b2, a1⟩, fun y hy => by
        rcases List.mem_cons.mp hy with rfl | hy
        · exact List.mem_of_getElem? b1
        · exact a2 y hy⟩
    · cases hq
/-- back in the larger world -/
theorem sx_PI.back {pre post : List sx_C} {ρ1 : Nat → Option Nat} {w1 : sx_W} {wl1 : va_W} (hI : sx_PI cA ρ z σ Fr w nx wl) (hc : sx_ckc (sx_fi fs nx) γ θ w pre fs = true) (hγ : ∀ q ∈ γ, sx_okG ρ q) (hlen : pre.length ≤ post.length) (hg : sx_ge (sx_Ru ρ fs) ρ1) (hpost : ∀ (i : Nat) (c : sx_C), post[i]? = some c → sx_look 12 w1 i = some c) (hI1 : sx_PI cA ρ1 (sx_zi γ ρ z) (sx_σi θ σ) (sx_Fs ρ fs wl) w1 post.length wl1) :
    ∃ ρ2, sx_ge ρ ρ2 ∧ (∀ i a, ρ1 i = some a → ρ2 (sx_fi fs nx i) = some a) ∧ sx_PI cA ρ2 z σ Fr (sx_puts (sx_fi fs nx) γ θ 0 post w) (nx + (post.length - pre.length)) wl1 := by
  obtain ⟨hl, hck⟩ := sx_ckc_ok hc
  obtain ⟨a1, a2, a3, a4⟩ := hI
  obtain ⟨b1, b2, b3, b4⟩ := hI1
  have old : ∀ {j a : Nat}, ρ j = some a → (fun j => if j < nx then ρ j else ρ1 (j - nx + fs.length)) j = some a := fun {j a} h => by
    show (if j < nx then ρ j else _) = some a
    rw [if_pos (a2 j a h).1]
    exact h
  have hge : sx_ge ρ (fun j => if j < nx then ρ j else ρ1 (j - nx + fs.length)) := fun j a h => old h
  have hdef : ∀ {i j : Nat}, fs[i]? = some j → ∃ a, ρ j = some a ∧ ρ1 i = some a := fun {i j} h => by
    have hi : i < pre.length := by rw [hl]; exact (List.getElem?_eq_some_iff.mp h).1
    obtain ⟨j', h1, h2⟩ := hck i pre[i] (List.getElem?_eq_getElem hi)
    rw [h] at h1
    cases h1
    obtain ⟨k, a, e, g1, g2, g3⟩ := a1 j _ h2
    exact ⟨a, g2, hg i a (by rw [sx_Ru_at h]; exact g2)⟩
  have hnew : ∀ i a, ρ1 i = some a → (fun j => if j < nx then ρ j else ρ1 (j - nx + fs.length)) (sx_fi fs nx i) = some a := fun i a h => by
    cases hj : fs[i]? with
    | some j =>
      rw [sx_fi_at hj]
      obtain ⟨a', g1, g2⟩ := hdef hj
      rw [h] at g2
      cases g2
      exact old g1
    | none =>
      have hl9 : fs.length ≤ i := List.getElem?_eq_none_iff.mp hj
      rw [sx_fi_new hl9]
      show (if nx + (i - fs.length) < nx then _ else ρ1 (nx + (i - fs.length) - nx + fs.length)) = some a
      rw [if_neg (by omega), show nx + (i - fs.length) - nx + fs.length = i by omega]
      exact h
  have keep : ∀ {a : Nat} {e : va_E}, (∃ k : Nat, wl[k]? = some (a, e)) → (∀ i, sx_Ru ρ fs i ≠ some a) → ((∃ k : Nat, wl1[k]? = some (a, e)) ∧ ∀ i, ρ1 i ≠ some a) := fun {a e} h1 h2 => by
    obtain ⟨k, hk⟩ := h1
    exact b4 (a, e) (sx_Fs_in (List.mem_of_getElem? hk) (fun i j hj h => h2 i (by rw [sx_Ru_at hj]; exact h)))
  refine ⟨_, hge, hnew, ?_, ?_, ?_, ?_⟩
  · intro j c hj
    rcases sx_puts_look hj with ⟨k, c0, h1, h2, h3⟩ | ⟨h1, h2⟩
    · subst h3
      rw [Nat.zero_add] at h2
      subst h2
      obtain ⟨k9, a, e, g1, g2, g3⟩ := b1 k c0 (hpost k c0 h1)
      exact ⟨k9, a, e, g1, hnew k a g2, sx_iC_fwd hnew hge hγ g3⟩
    · obtain ⟨k, a, e, g1, g2, g3⟩ := a1 j c h1
      obtain ⟨⟨k', g4⟩, -⟩ := keep ⟨k, g1⟩ (fun i hi => by
        obtain ⟨j', h3, h4⟩ := sx_Ru_some hi
        have := a3 j j' a g2 h4
        subst this
        have hi9 : i < fs.length := (List.getElem?_eq_some_iff.mp h3).1
        exact h2 i (by omega) (by rw [Nat.zero_add, sx_fi_at h3]))
      exact ⟨k', a, e, g4, old g2, g3.mono hge⟩
  · intro j a hj
    have hj : (if j < nx then ρ j else ρ1 (j - nx + fs.length)) = some a := hj
    split at hj
    · rename_i hlt
      refine ⟨by omega, ?_⟩
      by_cases hx : ∃ i, sx_Ru ρ fs i = some a
      · obtain ⟨i, hi⟩ := hx
        exact (b2 i a (hg i a hi)).2
      · obtain ⟨-, k, e, h1⟩ := a2 j a hj
        obtain ⟨⟨k', h2⟩, -⟩ := keep ⟨k, h1⟩ (fun i hi => hx ⟨i, hi⟩)
        exact ⟨k', e, h2⟩
    · obtain ⟨h1, h2⟩ := b2 _ a hj
      exact ⟨by omega, h2⟩
  · have mix : ∀ {j i a : Nat}, ρ j = some a → ρ1 i = some a → fs.length ≤ i → False := fun {j i a} h1 h2 h3 => by
      by_cases hx : ∃ i, sx_Ru ρ fs i = some a
      · obtain ⟨i0, hi0⟩ := hx
        have := b3 i0 i a (hg i0 a hi0) h2
        subst this
        obtain ⟨j', h4, -⟩ := sx_Ru_some hi0
        have := (List.getElem?_eq_some_iff.mp h4).1
        omega
      · obtain ⟨-, k, e, h4⟩ := a2 j a h1
        exact (keep ⟨k, h4⟩ (fun i hi => hx ⟨i, hi⟩)).2 i h2
    intro i j a hi hj
    have hi : (if i < nx then ρ i else ρ1 (i - nx + fs.length)) = some a := hi
    have hj : (if j < nx then ρ j else ρ1 (j - nx + fs.length)) = some a := hj
    split at hi <;> split at hj
    · exact a3 i j a hi hj
    · exact (mix hi hj (by omega)).elim
    · exact (mix hj hi (by omega)).elim
    · have := b3 _ _ a hi hj
      omega
  · intro x hx
    obtain ⟨⟨k, h1⟩, h2⟩ := a4 x hx
    have h1 : wl[k]? = some (x.1, x.2) := h1
    obtain ⟨h3, h4⟩ := keep ⟨k, h1⟩ (fun i hi => by
      obtain ⟨j, h5, h6⟩ := sx_Ru_some hi
      exact h2 j h6)
    refine ⟨h3, fun j hj => ?_⟩
    have hj : (if j < nx then ρ j else ρ1 (j - nx + fs.length)) = some x.1 := hj
    split at hj
    · exact h2 j hj
    · exact h4 _ hj
end SXU
/-- the checks, all in one -/
def sx_ckI (fs : List Nat) (γ : List (Nat × sx_F)) (θ : List (Nat × sx_I)) (L0 : List (Nat × sx_V)) (S0 : List sx_V) (pre : List sx_C) (c : sx_Pt) : Bool := sx_ckc (sx_fi fs c.2.2.2.2) γ θ c.2.2.2.1 pre fs && sx_nod fs && sx_ckγ c.2.2.2.1 γ && sx_ckL (sx_fi fs c.2.2.2.2) γ θ c.2.1 L0 && sx_eqS c.2.2.1 (sx_iS (sx_fi fs c.2.2.2.2) γ θ S0)
theorem sx_Sg.use {tb : List Cond} {M : sx_M} {fr lo dk ds : Nat} {z : Nat → Nat} {σ : Nat → Int} {r0 r1 : Nat} {L0 L1 : List (Nat × sx_V)} {S0 S1 : List sx_V} {pre post : List sx_C} (fs : List Nat) (γ : List (Nat × sx_F)) (θ : List (Nat × sx_I)) {c : sx_Pt}
    (hseg : ∀ z' : Nat → Nat, sx_Sm tb M fr lo dk ds z' (sx_σi θ σ) r0 L0 S0 pre r1 L1 S1 post) (hr : c.1 = r0) (hlen : pre.length ≤ post.length) (hck : sx_ckI fs γ θ L0 S0 pre c = true) :
    sx_Sg tb M fr lo dk ds z σ c (r1, sx_iU (sx_fi fs c.2.2.2.2) γ θ L1, sx_iS (sx_fi fs c.2.2.2.2) γ θ S1, sx_puts (sx_fi fs c.2.2.2.2) γ θ 0 post c.2.2.2.1, c.2.2.2.2 + (post.length - pre.length)) := by
  obtain ⟨r, L, S, w, nx⟩ := c
  have hr : r = r0 := hr
  subst hr
  have hck : (sx_ckc (sx_fi fs nx) γ θ w pre fs && sx_nod fs && sx_ckγ w γ && sx_ckL (sx_fi fs nx) γ θ L L0 && sx_eqS S (sx_iS (sx_fi fs nx) γ θ S0)) = true := hck
  rw [Bool.and_eq_true, Bool.and_eq_true, Bool.and_eq_true, Bool.and_eq_true] at hck
  obtain ⟨⟨⟨⟨k1, k2⟩, k3⟩, k4⟩, k5⟩ := hck
  have k5 := sx_eqS_ok k5
  intro p l e R s m args below meth c Q D cA Fr A ρ k n hfr hlo hk hn C K wl H locs hI hS ls lv st hl hLv hSt
  have hγ := sx_ckγ_ok hI.pi k3
  have hIs := (hI.pi.inst k1 k2 hγ).in hI.2.2.2.2.1 hI.2.2.2.2.2
  obtain ⟨w1, hpost, hsg⟩ := hseg (sx_zi γ ρ z)
  obtain ⟨lv0, l1, l2⟩ := sx_ckL_ok (sx_Ru_back hI.pi) hγ hLv k4
  obtain ⟨hx, hcc, hml, hts, hown, hK, hZ, hB, hA, hnm⟩ := C
  have hSt : sx_RS ρ z σ S st := hSt
  rw [k5] at hSt
  refine hsg p l e R s m args below meth c Q D cA (sx_Fs ρ fs wl) A (sx_Ru ρ fs) k n hfr hlo hk hn ⟨hx, hcc, hml, hts, hown, hK, hZ.zz (fun i hi => sx_zi_lo hi), fun q hq => (nomatch hq), hA, hnm⟩ (fun ρ1 hg1 => ?_) wl H locs hIs hS ls lv0 st ⟨hl.1, hl.2.1, fun x hx => hl.2.2 x (l2 x hx)⟩ l1 (sx_iS_back (sx_Ru_back hI.pi) hγ hSt)
  intro wl1 H1 locs1 hI1 hS1 ls1 lv1 st1 hl1 hL1 hSt1
  obtain ⟨ρ2, g1, g2, g3⟩ := hI.pi.back k1 hγ hlen hg1 hpost hI1.pi
  exact K ρ2 g1 wl1 H1 locs1 (g3.in hI1.2.2.2.2.1 hI1.2.2.2.2.2) hS1 ls1 lv1 st1 hl1 (sx_iUl_fwd g2 g1 hγ hL1) (sx_iS_fwd g2 g1 hγ hSt1)
/-- the end of a segment, told otherwise: fewer cells, other ids for the new ones, numbers told by unknowns that are the same -/
theorem sx_Sg.conv {tb : List Cond} {M : sx_M} {fr lo dk ds : Nat} {z : Nat → Nat} {σ : Nat → Int} {c0 c1 : sx_Pt} (h : sx_Sg tb M fr lo dk ds z σ c0 c1) (fs : List Nat) (θ : List (Nat × sx_I)) {L0 : List (Nat × sx_V)} {S0 : List sx_V} {pre : List sx_C} (hθ : ∀ q ∈ θ, sx_ev σ q.2 = σ q.1) (hfs : ∀ i, i < c0.2.2.2.2 → fs[i]? = some i) (hck : sx_ckI fs [] θ L0 S0 pre c1 = true) : sx_Sg tb M fr lo dk ds z σ c0 (c1.1, L0, S0, sx_mkw 0 pre, pre.length) := by
  obtain ⟨r, L, S, w, nx⟩ := c1
  have hck : (sx_ckc (sx_fi fs nx) [] θ w pre fs && sx_nod fs && sx_ckγ w [] && sx_ckL (sx_fi fs nx) [] θ L L0 && sx_eqS S (sx_iS (sx_fi fs nx) [] θ S0)) = true := hck
  rw [Bool.and_eq_true, Bool.and_eq_true, Bool.and_eq_true, Bool.and_eq_true] at hck
  obtain ⟨⟨⟨⟨k1, k2⟩, k3⟩, k4⟩, k5⟩ := hck
  have k5 := sx_eqS_ok k5
  have hσ : sx_σi θ σ = σ := by
    funext u
    unfold sx_σi
    cases hu : sx_lk θ u with
    | none => rfl
    | some v => exact hθ _ (sx_lk_in hu)
  intro p l e R s m args below meth c Q D cA Fr A ρ k n hfr hlo hk hn C K wl H locs hI hS ls lv st hl hLv hSt
  refine h p l e R s m args below meth c Q D cA Fr A ρ k n hfr hlo hk hn C (fun ρ1 hg1 => ?_) wl H locs hI hS ls lv st hl hLv hSt
  intro wl1 H1 locs1 hI1 hS1 ls1 lv1 st1 hl1 hL1 hSt1
  have hz : ∀ ρ : Nat → Option Nat, sx_zi [] ρ z = z := fun ρ => by
    funext i
    unfold sx_zi
    split
    · rfl
    · rfl
  have hγ : ∀ q ∈ ([] : List (Nat × sx_F)), sx_okG ρ1 q := fun q hq => (nomatch hq)
  have hIs := hI1.pi.inst k1 k2 hγ
  rw [hz, hσ] at hIs
  obtain ⟨lv0, l1, l2⟩ := sx_ckL_ok (sx_Ru_back hI1.pi) hγ hL1 k4
  rw [hz, hσ] at l1
  have hSt1 : sx_RS ρ1 z σ S st1 := hSt1
  rw [k5] at hSt1
  have hSt2 := sx_iS_back (sx_Ru_back hI1.pi) hγ hSt1
  rw [hz, hσ] at hSt2
  have hge : sx_ge ρ (sx_Ru ρ1 fs) := fun i a hi => by
    rw [sx_Ru_at (hfs i (hI.2.1 i a hi).1)]
    exact hg1 i a hi
  refine K (sx_Ru ρ1 fs) hge wl1 H1 locs1 ⟨hIs.1, hIs.2.1, hIs.2.2.1, fun x hx => ?_, hI1.2.2.2.2.1, hI1.2.2.2.2.2⟩ hS1 ls1 lv0 st1 ⟨hl1.1, hl1.2.1, fun x hx => hl1.2.2 x (l2 x hx)⟩ l1 hSt2
  refine ⟨(hI1.2.2.2.1 x hx).1, fun i hi => ?_⟩
  obtain ⟨j, -, h2⟩ := sx_Ru_some hi
  exact (hI1.2.2.2.1 x hx).2 j h2
