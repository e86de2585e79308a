/-! contracts of calls in a small world -/
theorem Met.imp9 {l : Launch} {y : MethodName} {ws : List Cond} {rm : Room} {Pc : Array Value → State → Prop} {Qc Qc' : Array Value → State → Outcome → State → Prop} {mc ms : Nat} {free : Addr → Prop} (h : Met l y ws rm Pc Qc mc ms free) (hq : ∀ a s o t, Qc a s o t → Qc' a s o t) : Met l y ws rm Pc Qc' mc ms free := by
  intro p e ha hc hk s m args below hf happ hP ht
  obtain ⟨k, o, h1, h2, h3, hQ, hL⟩ := h p e ha hc hk s m args below hf happ hP ht
  exact ⟨k, o, h1, h2, h3, hq _ _ _ _ hQ, hL⟩
section SXF9
variable {P : Nat → Option sx_M} {tbs : List (List Cond)} {tb : List Cond} {B : sx_Bs} {pr : sx_Pr}
theorem sx_met2 (hPG : sx_PG P tbs) {n : Nat} (IH : sx_SND P tb B pr n) {M : sx_M} (hM : ∃ mi, P mi = some M) (hpl : plainName M.1.cls = true) {fr lo : Nat} {vs : List sx_V} {w : sx_W} {nx : Nat} {c2 : sx_S} {rv : List sx_V} (hex : sx_ex P B pr n fr lo M 100000 true (0, sx_ent 0 vs, [], w, nx, 0, 0) = some c2) (hret : sx_ret B M c2 = some rv) (hsl : sx_sl vs ≤ M.2.2.1) {fr2 lo2 : Nat} (hfr2 : fr ≤ fr2) (hlo2 : lo ≤ lo2)
    (l : Launch) {D : va_G} {cA : Nat → ClassId} {z : Nat → Nat} {σ : Nat → Int} {Fr : va_W} {ρ : Nat → Option Nat} {wl : va_W} (hB : sx_okB σ B) {xs : List Value} (hxs : sx_RS ρ z σ vs xs) (hPI : sx_PI cA ρ z σ Fr w nx wl) (sz : Nat) :
    Met l M.1 (sx_ws M tb) ({ frames := fr2, cells := c2.2.2.2.2.2.1, slots := c2.2.2.2.2.2.2, locals := lo2 }) (va_Pc xs (sx_Pre D cA z wl sz)) (sx_Q (sx_post cA ρ z σ Fr c2.2.2.2.1 c2.2.2.2.2.1 rv) (sx_Bst D (va_A wl sz)) (va_A wl sz)) c2.2.2.2.2.2.1 c2.2.2.2.2.2.2 (va_A wl sz) := by
  refine Met.ofW (cc := M.2.1) (maxL := M.2.2.1) (ret := M.2.2.2.1) hpl rfl ?_
  intro p e s m args below meth c s₁ Bd hml hv
  obtain ⟨rfl, hsz, hP, hK, hD0, hZ⟩ := hv
  subst hsz
  have hx := Bd.exec
  have hb := Bd.bytes
  have hr := Bd.returns
  have hts : ∀ w ∈ tb, w.before xs.toArray s = true := fun w hw => atoms_spec (ws := sx_ws M tb) Bd.pre w (List.mem_cons_of_mem _ hw)
  have hown : s.vm.findClass M.1.cls = some m.cls := findClass_of_methodNamed Bd.named
  have hlocks := Bd.notSynchronized
  have hnm : meth.name = M.1.name := (name_of_methodNamed Bd.named Bd.method).1
  have hD := hD0.self (sz := s.heap.size)
  have hA : ∀ q : Nat, s.heap.size ≤ q → va_A wl s.heap.size q := fun q h => Or.inr h
  have hS : va_S (va_A wl s.heap.size) s.heap s.heap [] := va_S.rf
  have C : sx_CX p s m xs.toArray meth c D cA z σ B (va_A wl s.heap.size) tb M.1.cls M.1.name M.2.1 M.2.2.1 := ⟨hx, hb, hml, hts, hown, hK, hZ, hB, hA, hnm⟩
  have hl := lv_entry xs (n := M.2.2.1) (by rw [(sx_sl_ok hxs).1]; exact hsl)
  rw [lg_entry_eq]
  obtain ⟨mi, hmi⟩ := hM
  have h0 := (hPG mi M hmi).1
  have main := (IH fr lo M 100000 true _ c2 ⟨mi, hmi⟩ hex).2 p l e (headSpec (sx_ws M tb) ({ frames := fr2, cells := c2.2.2.2.2.2.1, slots := c2.2.2.2.2.2.2, locals := lo2 })).room s m xs.toArray below meth c (MQ below (sx_Q (sx_post cA ρ z σ Fr c2.2.2.2.1 c2.2.2.2.2.1 rv) (sx_Bst D (va_A wl s.heap.size)) (va_A wl s.heap.size)) xs.toArray s c2.2.2.2.2.2.1 c2.2.2.2.2.2.2 (va_A wl s.heap.size)) D cA z σ Fr (va_A wl s.heap.size) ρ hfr2 hlo2 (Nat.le_refl _) (Nat.le_refl _) C ?_
  · have := main wl s.heap [] (hPI.in hP hD) hS _ _ [] hl (sx_ent_ok 0 hxs) trivial
    rw [show sx_rpc M (0, sx_ent 0 vs, [], w, nx, 0, 0).1 = 0 from h0] at this
    exact this
  · intro ρ' hge wl' H' locs' hI' hS' ls lv st hl' hL' hSt'
    unfold sx_ret at hret
    split at hret
    · cases hret
    · rename_i x hrow
      have hok := (hPG mi M hmi).2.2 _ _ hrow
      obtain ⟨pc0, ins, len, aux, cst⟩ := x
      have hpc : sx_rpc M c2.1 = pc0 := by unfold sx_rpc; rw [hrow]
      rw [hpc]
      have hdec : ∀ {ins : Instr}, (decide (decode M.2.1 pc0 = .ok (ins, len)) && Nat.beq len 1) = true → decode M.2.1 pc0 = .ok (ins, 1) := fun {ins} q => by
        rw [Bool.and_eq_true] at q
        have e1 := of_decide_eq_true q.1
        rw [Nat.eq_of_beq_eq_true q.2] at e1
        exact e1
      have fin : ∀ {v : Option Value}, sx_RS ρ' z σ rv v.toList → ∀ t : State, t.heap = H' → s.WarmedH t.vm → sx_Q (sx_post cA ρ z σ Fr c2.2.2.2.1 c2.2.2.2.2.1 rv) (sx_Bst D (va_A wl s.heap.size)) (va_A wl s.heap.size) xs.toArray s (.returned v) t := fun {v} hv t ht hW =>
        ⟨⟨v, (ρ', wl'), rfl, ⟨hge, hv, hI'.pi⟩, by rw [ht]; exact hI'.2.2.2.2.1, hI'.2.2.2.2.2⟩, hS'.F ht⟩
      split at hret
      · rename_i v ty hins hS1 hret9
        have hins : ins = .ireturn := hins
        subst hins
        cases hcd : (Nat.blt (sx_code ty) 4 && sx_fit B (sx_code ty) (.inl v)) with
        | false => simp only [hcd] at hret; cases hret
        | true =>
          simp only [hcd, cond_true] at hret
          cases hret
          rw [Bool.and_eq_true] at hcd
          rw [hS1] at hSt'
          obtain ⟨y, q, rfl, hy, hq⟩ := hSt'.int
          have := hq.nil
          subst this
          exact W.zret hx hb (hr.trans hret9) (sx_fit_ok hB hcd.2 (sx_RVi (ρ := ρ') (z := z) hy) rfl).1 (fin ⟨sx_RVi hy, trivial⟩) hS'.2.2 (hdec hok) hlocks
      · rename_i v hins hS1 hret9
        have hins : ins = .lreturn := hins
        subst hins
        cases hret
        rw [hS1] at hSt'
        obtain ⟨y, q, rfl, hy, hq⟩ := hSt'.long
        have := hq.nil
        subst this
        exact W.lret hx hb (hr.trans hret9) (fin ⟨sx_RVl hy, trivial⟩) hS'.2.2 (hdec hok) hlocks
      · rename_i v nm hins hS1 hret9
        have hins : ins = .areturn := hins
        subst hins
        cases hret
        rw [hS1] at hSt'
        obtain ⟨o, q, rfl, hy, hq⟩ := hSt'.ref
        have := hq.nil
        subst this
        exact W.aret hx hb (hr.trans hret9) (Or.inl ⟨nm, rfl⟩) (by cases o with | none => exact Or.inl rfl | some a => exact Or.inr ⟨a, rfl⟩) (fin ⟨sx_RVr hy, trivial⟩) hS'.2.2 (hdec hok) hlocks
      · rename_i v nm hins hS1 hret9
        have hins : ins = .areturn := hins
        subst hins
        cases hret
        rw [hS1] at hSt'
        obtain ⟨o, q, rfl, hy, hq⟩ := hSt'.ref
        have := hq.nil
        subst this
        exact W.aret hx hb (hr.trans hret9) (Or.inr ⟨nm, rfl⟩) (by cases o with | none => exact Or.inl rfl | some a => exact Or.inr ⟨a, rfl⟩) (fin ⟨sx_RVr hy, trivial⟩) hS'.2.2 (hdec hok) hlocks
      · rename_i hins hS1 hret9
        have hins : ins = .return_ := hins
        subst hins
        cases hret
        rw [hS1] at hSt'
        have := hSt'.nil
        subst this
        exact W.vret hx hb (hr.trans hret9) (fin (v := none) trivial) hS'.2.2 (hdec hok) hlocks
      · cases hret
end SXF9
def sx_rnV (f : Nat → Nat) (v : sx_V) : sx_V := match v with
  | .inr (.inr (some (.inl i))) => .inr (.inr (some (.inl (f i))))
  | v => v
def sx_rnS (f : Nat → Nat) : List sx_V → List sx_V
  | [] => []
  | v :: vs => sx_rnV f v :: sx_rnS f vs
def sx_rnF (f : Nat → Nat) : List (Option sx_V) → List (Option sx_V)
  | [] => []
  | none :: vs => none :: sx_rnF f vs
  | some v :: vs => some (sx_rnV f v) :: sx_rnF f vs
def sx_rnU (f : Nat → Nat) : List (Nat × sx_V) → List (Nat × sx_V)
  | [] => []
  | q :: vs => (q.1, sx_rnV f q.2) :: sx_rnU f vs
def sx_rnC (f : Nat → Nat) (c : sx_C) : sx_C := match c with
  | .inl o => .inl (o.1, sx_rnF f o.2)
  | .inr a => .inr (a.1, a.2.1, a.2.2.1, sx_rnU f a.2.2.2)
section SXR
variable {ρ ρ' : Nat → Option Nat} {z : Nat → Nat} {σ : Nat → Int} {f : Nat → Nat}
theorem sx_rnV_ok (hf : ∀ i a, ρ i = some a → ρ' (f i) = some a) {v : sx_V} {x : Value} (h : sx_RV ρ z σ v x) : sx_RV ρ' z σ (sx_rnV f v) x := by
  match v, h with
  | .inl n, h => exact h
  | .inr (.inl e), h => exact h
  | .inr (.inr none), h => exact h
  | .inr (.inr (some (.inr k))), h => exact h
  | .inr (.inr (some (.inl i))), ⟨o, h1, a, h2, h3⟩ => exact ⟨o, h1, a, hf i a h2, h3⟩
theorem sx_rnS_ok (hf : ∀ i a, ρ i = some a → ρ' (f i) = some a) : ∀ {vs : List sx_V} {xs : List Value}, sx_RS ρ z σ vs xs → sx_RS ρ' z σ (sx_rnS f vs) xs
  | [], [], _ => trivial
  | _ :: _, _ :: _, h => ⟨sx_rnV_ok hf h.1, sx_rnS_ok hf h.2⟩
  | [], _ :: _, h => h.elim
  | _ :: _, [], h => h.elim
theorem sx_rnF_ok (hf : ∀ i a, ρ i = some a → ρ' (f i) = some a) : ∀ {vs : List (Option sx_V)} {xs : List Value}, sx_RFs ρ z σ vs xs → sx_RFs ρ' z σ (sx_rnF f vs) xs
  | [], [], _ => trivial
  | none :: _, _ :: _, h => ⟨trivial, sx_rnF_ok hf h.2⟩
  | some _ :: _, _ :: _, h => ⟨sx_rnV_ok hf h.1, sx_rnF_ok hf h.2⟩
  | [], _ :: _, h => h.elim
  | _ :: _, [], h => h.elim
theorem sx_rnU_lk (k : Nat) : ∀ (u : List (Nat × sx_V)), sx_lk (sx_rnU f u) k = (sx_lk u k).map (sx_rnV f)
  | [] => rfl
  | q :: t => by
    show (bif Nat.beq q.1 k then some (sx_rnV f q.2) else sx_lk (sx_rnU f t) k) = ((bif Nat.beq q.1 k then some q.2 else sx_lk t k) : Option sx_V).map (sx_rnV f)
    cases Nat.beq q.1 k with
    | true => rfl
    | false => exact sx_rnU_lk k t
theorem sx_rnA_ok (hf : ∀ i a, ρ i = some a → ρ' (f i) = some a) {u : List (Nat × sx_V)} {zr : Bool} {d : Value} {g : Nat → Value} (h : sx_RA ρ z σ u zr d g) : sx_RA ρ' z σ (sx_rnU f u) zr d g := by
  intro k
  have h := h k
  rw [sx_rnU_lk]
  cases hk : sx_lk u k with
  | none => rw [hk] at h; exact h
  | some v => rw [hk] at h; exact sx_rnV_ok hf h
theorem sx_rnC_ok (hf : ∀ i a, ρ i = some a → ρ' (f i) = some a) {cA : Nat → ClassId} {c : sx_C} {e : va_E} (h : sx_RC ρ z σ cA c e) : sx_RC ρ' z σ cA (sx_rnC f c) e := by
  match c, h with
  | .inl o, ⟨xs, h1, h2⟩ => exact ⟨xs, h1, sx_rnF_ok hf h2⟩
  | .inr a, ⟨x, h1, h0, h2⟩ =>
    refine ⟨x, h1, h0, ?_⟩
    match hx : x.2, h2 with
    | .inl g, h => exact ⟨h.1, sx_rnA_ok hf h.2⟩
    | .inr (.inl g), h => exact ⟨h.1, sx_rnA_ok hf h.2⟩
    | .inr (.inr (.inl g)), h => exact h.elim
    | .inr (.inr (.inr (.inl g))), h => exact h.elim
    | .inr (.inr (.inr (.inr g))), h => exact ⟨h.1, sx_rnA_ok hf h.2⟩
end SXR
/-- new cells, shifted -/
def sx_adds (nx : Nat) : List (Nat × sx_C) → sx_W → sx_W
  | [], w => w
  | q :: t, w => sx_upd (sx_rnC (fun i => nx + i) q.2) 12 (sx_adds nx t w) (nx + q.1)
theorem sx_adds_look {nx : Nat} : ∀ {cs : List (Nat × sx_C)} {w : sx_W} {j : Nat} {c : sx_C}, sx_look 12 (sx_adds nx cs w) j = some c → (∃ q ∈ cs, j = nx + q.1 ∧ c = sx_rnC (fun i => nx + i) q.2) ∨ sx_look 12 w j = some c
  | [], w, j, c, h => Or.inr h
  | q :: t, w, j, c, h => by
    rcases sx_look_upd 12 h with ⟨h1, h2⟩ | ⟨-, h2⟩
    · exact Or.inl ⟨q, List.mem_cons_self, h1, h2⟩
    · rcases sx_adds_look h2 with ⟨q', h3, h4⟩ | h3
      · exact Or.inl ⟨q', List.mem_cons_of_mem _ h3, h4⟩
      · exact Or.inr h3
/-- what a callee that knew nothing of the world leaves behind, in the world -/
theorem sx_join {cA : Nat → ClassId} {ρ ρ1 : Nat → Option Nat} {z : Nat → Nat} {σ : Nat → Int} {Fr wl wl1 : va_W} {w w1 : sx_W} {nx nx1 : Nat} {cs : List (Nat × sx_C)} (h : sx_PI cA ρ z σ Fr w nx wl) (h1 : sx_PI cA ρ1 z σ wl w1 nx1 wl1) (hcs : ∀ q ∈ cs, sx_look 12 w1 q.1 = some q.2) :
    ∃ ρ', sx_ge ρ ρ' ∧ (∀ i a, ρ1 i = some a → ρ' (nx + i) = some a) ∧ sx_PI cA ρ' z σ Fr (sx_adds nx cs w) (nx + nx1) wl1 := by
  obtain ⟨a1, a2, a3, a4⟩ := h
  obtain ⟨b1, b2, b3, b4⟩ := h1
  have hge : sx_ge ρ (fun j => if j < nx then ρ j else ρ1 (j - nx)) := fun i a hi => by
    show (if i < nx then ρ i else ρ1 (i - nx)) = some a
    rw [if_pos (a2 i a hi).1]
    exact hi
  have hnew : ∀ i a, ρ1 i = some a → (fun j => if j < nx then ρ j else ρ1 (j - nx)) (nx + i) = some a := fun i a hi => by
    show (if nx + i < nx then ρ (nx + i) else ρ1 (nx + i - nx)) = some a
    rw [if_neg (by omega), show nx + i - nx = i by omega]
    exact hi
  have mem : ∀ {k : Nat} {x : Nat × va_E}, wl[k]? = some x → x ∈ wl := fun hk => List.mem_of_getElem? hk
  refine ⟨_, hge, hnew, ?_, ?_, ?_, ?_⟩
  · intro j c hj
    rcases sx_adds_look hj with ⟨q, hq, rfl, rfl⟩ | hj
    · obtain ⟨k, a, e, q1, q2, q3⟩ := b1 _ _ (hcs q hq)
      exact ⟨k, a, e, q1, hnew _ _ q2, sx_rnC_ok hnew q3⟩
    · obtain ⟨k, a, e, q1, q2, q3⟩ := a1 j c hj
      obtain ⟨⟨k', q4⟩, -⟩ := b4 (a, e) (mem q1)
      exact ⟨k', a, e, q4, hge _ _ q2, q3.mono hge⟩
  · intro i a hi
    have hi : (if i < nx then ρ i else ρ1 (i - nx)) = some a := hi
    split at hi
    · obtain ⟨q1, k, e, q2⟩ := a2 i a hi
      obtain ⟨⟨k', q4⟩, -⟩ := b4 (a, e) (mem q2)
      exact ⟨by omega, k', e, q4⟩
    · obtain ⟨q1, q2⟩ := b2 _ a hi
      exact ⟨by omega, q2⟩
  · intro i j a hi hj
    have hi : (if i < nx then ρ i else ρ1 (i - nx)) = some a := hi
    have hj : (if j < nx then ρ j else ρ1 (j - nx)) = some a := hj
    split at hi <;> split at hj
    · exact a3 i j a hi hj
    · obtain ⟨-, k, e, q2⟩ := a2 i a hi
      exact absurd hj ((b4 (a, e) (mem q2)).2 _)
    · obtain ⟨-, k, e, q2⟩ := a2 j a hj
      exact absurd hi ((b4 (a, e) (mem q2)).2 _)
    · have := b3 _ _ a hi hj
      omega
  · intro x hx
    obtain ⟨⟨k, q1⟩, q2⟩ := a4 x hx
    obtain ⟨q3, q4⟩ := b4 x (mem q1)
    refine ⟨q3, fun i hi => ?_⟩
    have hi : (if i < nx then ρ i else ρ1 (i - nx)) = some x.1 := hi
    split at hi
    · exact q2 i hi
    · exact q4 _ hi
/-- a contract: method, arguments, what it gives, its new cells, how many ids, cells and slots made, frames and locals -/
abbrev sx_Kt : Type := Nat × List sx_V × List sx_V × List (Nat × sx_C) × Nat × Nat × Nat × Nat × Nat
def sx_noid (v : sx_V) : Bool := match v with
  | .inr (.inr (some (.inl _))) => false
  | _ => true
theorem sx_noid_ok {ρ ρ' : Nat → Option Nat} {z : Nat → Nat} {σ : Nat → Int} : ∀ {vs : List sx_V} {xs : List Value}, vs.all sx_noid = true → sx_RS ρ z σ vs xs → sx_RS ρ' z σ vs xs
  | [], [], _, _ => trivial
  | v :: vs, x :: xs, h, hx => by
    rw [List.all_cons, Bool.and_eq_true] at h
    refine ⟨?_, sx_noid_ok h.2 hx.2⟩
    have hv := hx.1
    have h1 := h.1
    match v, h1, hv with
    | .inl n, _, hv => exact hv
    | .inr (.inl e), _, hv => exact hv
    | .inr (.inr none), _, hv => exact hv
    | .inr (.inr (some (.inr k))), _, hv => exact hv
    | .inr (.inr (some (.inl i))), h1, _ => cases h1
  | [], _ :: _, _, h => h.elim
  | _ :: _, [], _, h => h.elim
def sx_KV (P : Nat → Option sx_M) (B : sx_Bs) (pr : sx_Pr) (K : sx_Kt) : Prop := ∃ (n : Nat) (M : sx_M) (c2 : sx_S), P K.1 = some M ∧ sx_pg K.1 = some M ∧ plainName M.1.cls = true ∧ sx_sl K.2.1 ≤ M.2.2.1 ∧ K.2.1.all sx_noid = true ∧ sx_ex P B pr n K.2.2.2.2.2.2.2.1 K.2.2.2.2.2.2.2.2 M 100000 true (0, sx_ent 0 K.2.1, [], sx_emp 12, 0, 0, 0) = some c2 ∧ sx_ret B M c2 = some K.2.2.1 ∧ (∀ q ∈ K.2.2.2.1, sx_look 12 c2.2.2.2.1 q.1 = some q.2) ∧ c2.2.2.2.2.1 = K.2.2.2.2.1 ∧ c2.2.2.2.2.2.1 = K.2.2.2.2.2.1 ∧ c2.2.2.2.2.2.2 = K.2.2.2.2.2.2.1
/-- the same as one computation -/
noncomputable def sx_okK (P : Nat → Option sx_M) (B : sx_Bs) (pr : sx_Pr) (n : Nat) (K : sx_Kt) : Bool := match P K.1, sx_pg K.1 with
  | some M, some _ => plainName M.1.cls && Nat.ble (sx_sl K.2.1) M.2.2.1 && K.2.1.all sx_noid && (match sx_ex P B pr n K.2.2.2.2.2.2.2.1 K.2.2.2.2.2.2.2.2 M 100000 true (0, sx_ent 0 K.2.1, [], sx_emp 12, 0, 0, 0) with
    | some c2 => sx_eqSo (sx_ret B M c2) K.2.2.1 && K.2.2.2.1.all (fun q => sx_eqCo (sx_look 12 c2.2.2.2.1 q.1) q.2) && Nat.beq c2.2.2.2.2.1 K.2.2.2.2.1 && Nat.beq c2.2.2.2.2.2.1 K.2.2.2.2.2.1 && Nat.beq c2.2.2.2.2.2.2 K.2.2.2.2.2.2.1
    | none => false)
  | _, _ => false
theorem sx_okK_ok {P : Nat → Option sx_M} {B : sx_Bs} {pr : sx_Pr} {n : Nat} {K : sx_Kt} (hsub : ∀ i M, P i = some M → sx_pg i = some M) (h : sx_okK P B pr n K = true) : sx_KV P B pr K := by
  unfold sx_okK at h
  split at h
  · rename_i M M2 hM hM2
    rw [Bool.and_eq_true, Bool.and_eq_true, Bool.and_eq_true] at h
    obtain ⟨⟨⟨h1, h2⟩, h3⟩, h4⟩ := h
    split at h4
    · rename_i c2 hc2
      rw [Bool.and_eq_true, Bool.and_eq_true, Bool.and_eq_true, Bool.and_eq_true] at h4
      obtain ⟨⟨⟨⟨g1, g2⟩, g3⟩, g4⟩, g5⟩ := h4
      exact ⟨n, M, c2, hM, hsub _ _ hM, h1, Nat.le_of_ble_eq_true h2, h3, hc2, sx_eqSo_ok g1, fun q hq => sx_eqCo_ok (List.all_eq_true.mp g2 q hq), Nat.eq_of_beq_eq_true g3, Nat.eq_of_beq_eq_true g4, Nat.eq_of_beq_eq_true g5⟩
    · cases h4
  · cases h
def sx_fnd : List sx_Kt → Nat → List sx_V → Option sx_Kt
  | [], _, _ => none
  | K :: Ks, mj, vs => bif Nat.beq K.1 mj && sx_eqS K.2.1 vs then some K else sx_fnd Ks mj vs
theorem sx_fnd_ok : ∀ {Ks : List sx_Kt} {mj : Nat} {vs : List sx_V} {K : sx_Kt}, sx_fnd Ks mj vs = some K → K ∈ Ks ∧ K.1 = mj ∧ K.2.1 = vs
  | [], _, _, _, h => by cases h
  | K0 :: Ks, mj, vs, K, h => by
    unfold sx_fnd at h
    cases hb : (Nat.beq K0.1 mj && sx_eqS K0.2.1 vs) with
    | true =>
      rw [hb] at h
      cases h
      rw [Bool.and_eq_true] at hb
      exact ⟨List.mem_cons_self, Nat.eq_of_beq_eq_true hb.1, sx_eqS_ok hb.2⟩
    | false =>
      rw [hb] at h
      obtain ⟨h1, h2⟩ := sx_fnd_ok h
      exact ⟨List.mem_cons_of_mem _ h1, h2⟩
theorem sx_PI0 {cA : Nat → ClassId} {z : Nat → Nat} {σ : Nat → Int} {wl : va_W} : sx_PI cA (fun _ => none) z σ wl (sx_emp 12) 0 wl := by
  refine ⟨?_, ?_, ?_, ?_⟩
  · intro j c hj
    rw [sx_look_emp] at hj
    cases hj
  · intro i a hi
    cases hi
  · intro i j a hi _
    cases hi
  · intro x hx
    exact ⟨List.getElem?_of_mem hx, fun i hi => by cases hi⟩
/-- the hook: a call whose contract stands in the list -/
noncomputable def sx_prK (Ks : List sx_Kt) : sx_Pr := fun fr lo M x c => match sx_prep sx_pg x c with
  | some q => (match sx_fnd Ks (x.2.2.2.1.getD 1 0) q.2.1 with
    | some K => bif Nat.ble 1 fr && Nat.ble K.2.2.2.2.2.2.2.1 (fr - 1) && Nat.ble (q.1.2.2.1 + 19) lo && Nat.ble K.2.2.2.2.2.2.2.2 (lo - (q.1.2.2.1 + 19)) && Nat.ble (sx_sl q.2.2) 8 then
        some (c.1 + 1, c.2.1, sx_rnS (fun i => c.2.2.2.2.1 + i) K.2.2.1 ++ q.2.2, sx_adds c.2.2.2.2.1 K.2.2.2.1 c.2.2.2.1, c.2.2.2.2.1 + K.2.2.2.2.1, c.2.2.2.2.2.1 + K.2.2.2.2.2.1, c.2.2.2.2.2.2 + K.2.2.2.2.2.2.1) else none
    | none => none)
  | none => none
theorem sx_prK_ok {P : Nat → Option sx_M} {B : sx_Bs} {pr : sx_Pr} {Ks : List sx_Kt} (hPG : sx_PG P sx_tbs) (hsnd : ∀ n, sx_SND P wsL_law B pr n) (hKs : ∀ K ∈ Ks, sx_KV P B pr K) : sx_PR1 B (sx_prK Ks) := by
  intro fr lo M x c0 c1 h hok
  obtain ⟨pc0, ins, len, aux, cst⟩ := x
  obtain ⟨r, L, S, w, nx, k, n⟩ := c0
  unfold sx_prK at h
  split at h
  · rename_i q hq
    obtain ⟨M', vs, S'⟩ := q
    obtain ⟨kd, mj, n9, ci, tl, haux, hM', -, -⟩ := sx_prep_M hq
    have haux : aux = kd :: mj :: n9 :: ci :: tl := haux
    split at h
    · rename_i K hK9
      obtain ⟨hmem, hK1, hK2⟩ := sx_fnd_ok hK9
      have hK1 : K.1 = mj := by rw [hK1]; show aux.getD 1 0 = mj; rw [haux]; rfl
      have hK2 : K.2.1 = vs := hK2
      cases hg : (Nat.ble 1 fr && Nat.ble K.2.2.2.2.2.2.2.1 (fr - 1) && Nat.ble (M'.2.2.1 + 19) lo && Nat.ble K.2.2.2.2.2.2.2.2 (lo - (M'.2.2.1 + 19)) && Nat.ble (sx_sl S') 8) with
      | false => simp only [hg] at h; cases h
      | true =>
        simp only [hg, cond_true] at h
        cases h
        rw [Bool.and_eq_true, Bool.and_eq_true, Bool.and_eq_true, Bool.and_eq_true] at hg
        obtain ⟨⟨⟨⟨g1, g2⟩, g3⟩, g4⟩, g5⟩ := hg
        have g1 := Nat.le_of_ble_eq_true g1
        have g2 := Nat.le_of_ble_eq_true g2
        have g3 := Nat.le_of_ble_eq_true g3
        have g4 := Nat.le_of_ble_eq_true g4
        have g5 := Nat.le_of_ble_eq_true g5
        obtain ⟨n2, M2, c2, v1, v2, v3, v4, v5, v6, v7, v8, v9, v10, v11⟩ := hKs K hmem
        rw [hK1, hM'] at v2
        cases v2
        rw [hK2] at v4 v5 v6
        refine ⟨⟨Nat.le_add_right _ _, Nat.le_add_right _ _⟩, fun p l e R s m args below meth c Q D cA z σ Fr A ρ hfr hlo hc hs C K9 => ?_⟩
        have hB : sx_okB σ B := C.2.2.2.2.2.2.2.1
        refine sx_call_ok sx_prog (mc := K.2.2.2.2.2.1) (ms := K.2.2.2.2.2.2.1) (w' := sx_adds nx K.2.2.2.1 w) (nx' := nx + K.2.2.2.2.1) (rv := sx_rnS (fun i => nx + i) K.2.2.1) C sx_tb_ok sx_good hok hq g1 g3 hfr hlo g5 hc hs (fun wl xs sz hxs hPI => ?_) K9
        have hM2 := sx_met2 hPG (hsnd n2) ⟨_, v1⟩ v3 v6 v7 v4 g2 g4 l (D := D) (cA := cA) (z := z) (σ := σ) (Fr := wl) (ρ := fun _ => none) (wl := wl) hB (sx_noid_ok v5 hxs) sx_PI0 sz
        rw [v10, v11] at hM2
        refine hM2.imp9 (fun a s9 o t9 hq9 => ?_)
        obtain ⟨⟨v, u, e1, ⟨-, e2, e3⟩, e4⟩, e5⟩ := hq9
        obtain ⟨ρ', f1, f2, f3⟩ := sx_join hPI e3 v8
        rw [v9] at f3
        exact ⟨⟨v, (ρ', u.2), e1, ⟨f1, sx_rnS_ok f2 e2, f3⟩, e4⟩, e5⟩
    · cases h
  · cases h
