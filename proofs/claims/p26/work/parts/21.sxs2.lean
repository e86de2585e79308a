section SXE
variable {p : Program} {l : Launch} {e : Env} {R : Room} {s : State} {m : MethodId} {args : Array Value} {below : List Frame} {meth : Method} {c : Code} {Q : State → Prop}
variable {D : va_G} {cA : Nat → ClassId} {z : Nat → Nat} {σ : Nat → Int} {B : sx_Bs} {Fr : va_W} {A : Nat → Prop} {tbs : List (List Cond)} {tb : List Cond} {own mname : String} {cc : ByteArray} {nL pc cells slots : Nat}
variable {ρ : Nat → Option Nat} {L L' : List (Nat × sx_V)} {S S' : List sx_V} {w w' : sx_W} {nx nx' dc ds : Nat} {P : Nat → Option sx_M}
/-- one step in the same frame -/
theorem sx_step1_ok {M : sx_M} (C : sx_CX p s m args meth c D cA z σ B A tb M.1.cls M.1.name M.2.1 M.2.2.1) (htb : sx_tbOK tbs tb) (hcl : ∀ ci, sx_clOK tb ci) {x : sx_R} {c0 c1 : sx_S} (hrow : sx_row M c0.1 = some x) (hok : sx_okR P tbs M c0.1 x = true)
    (h : sx_step1 B M.2.2.1 x c0 = some c1) (hc : c1.2.2.2.2.2.1 ≤ R.cells) (hs : c1.2.2.2.2.2.2 ≤ R.slots) (K : ∀ ρ', sx_ge ρ ρ' → sx_KM p l e R s m args below meth c Q D cA z σ Fr A M.2.2.1 (sx_rpc M c1.1) c1.2.2.2.2.2.1 c1.2.2.2.2.2.2 ρ' c1.2.1 c1.2.2.1 c1.2.2.2.1 c1.2.2.2.2.1) : sx_KM p l e R s m args below meth c Q D cA z σ Fr A M.2.2.1 (sx_rpc M c0.1) c0.2.2.2.2.2.1 c0.2.2.2.2.2.2 ρ c0.2.1 c0.2.2.1 c0.2.2.2.1 c0.2.2.2.2.1 := by
  obtain ⟨pc0, ins, len, aux, cst⟩ := x
  obtain ⟨r, L, S, w, nx, k, n⟩ := c0
  have hpc : sx_rpc M r = pc0 := by unfold sx_rpc; rw [show sx_row M r = _ from hrow]
  show sx_KM p l e R s m args below meth c Q D cA z σ Fr A M.2.2.1 (sx_rpc M r) k n ρ L S w nx
  rw [hpc]
  unfold sx_step1 at h
  simp only at h
  split at h
  · rename_i q hq
    cases h
    have hfall : decode M.2.1 pc0 = .ok (ins, sx_ilen ins) ∧ sx_rpc M (r + 1) = pc0 + sx_ilen ins := by
      unfold sx_pure at hq
      split at hq <;> first | exact sx_fallD hok | cases hq
    intro wl H locs hI hS
    refine sx_pure_ok C.1 C.2.1 C.2.2.2.2.2.2.2.1 hfall.1 hq (?_)
    have := K ρ (sx_ge_rf ρ) wl H locs hI hS
    rw [hfall.2] at this
    exact this
  · split at h
    · rename_i q hq
      cases h
      obtain ⟨S1, t⟩ := q
      have hj : decode M.2.1 pc0 = .ok (ins, 3) ∧ (pc0 : Int) + sx_joff ins = ((sx_rpc M (aux.headD 0) : Nat) : Int) ∧ (t = false → sx_rpc M (r + 1) = pc0 + 3) := by
        have two : ∀ {ins : Instr} {o : Int}, sx_ilen ins = 3 → (decide (decode M.2.1 pc0 = .ok (ins, len)) && (sx_fall M r (pc0, ins, len, aux, cst) && sx_okjt M (pc0, ins, len, aux, cst) o)) = true → decode M.2.1 pc0 = .ok (ins, 3) ∧ (pc0 : Int) + o = ((sx_rpc M (aux.headD 0) : Nat) : Int) ∧ (t = false → sx_rpc M (r + 1) = pc0 + 3) := by
          intro ins o hl h
          rw [Bool.and_eq_true, Bool.and_eq_true] at h
          obtain ⟨a, b⟩ := sx_fallD (show (decide (decode M.2.1 pc0 = .ok (ins, len)) && sx_fall M r (pc0, ins, len, aux, cst)) = true by rw [Bool.and_eq_true]; exact ⟨h.1, h.2.1⟩)
          rw [hl] at a b
          exact ⟨a, (sx_eq_iff _ _).mp h.2.2, fun _ => b⟩
        unfold sx_jmp at hq
        split at hq
        · rename_i o _
          cases hq
          have hok : (decide (decode M.2.1 pc0 = .ok (.goto o, len)) && (Nat.beq len 3 && sx_okjt M (pc0, .goto o, len, aux, cst) o)) = true := hok
          rw [Bool.and_eq_true, Bool.and_eq_true] at hok
          have e3 := Nat.eq_of_beq_eq_true hok.2.1
          have e1 := of_decide_eq_true hok.1
          rw [e3] at e1
          exact ⟨e1, (sx_eq_iff _ _).mp hok.2.2, fun q => nomatch q⟩
        · exact two rfl hok
        · exact two rfl hok
        · exact two rfl hok
        · exact two rfl hok
        · exact two rfl hok
        · cases hq
      refine sx_jmp_ok (tgt := sx_rpc M (aux.headD 0)) C hj.1 hj.2.1 hq ?_
      have := K ρ (sx_ge_rf ρ)
      cases t with
      | true => exact this
      | false =>
        have e1 := hj.2.2 rfl
        rw [show (bif false then sx_rpc M (aux.headD 0) else pc0 + 3) = sx_rpc M (r + 1) from e1.symm]
        exact this
    · split at h
      · rename_i q hq
        cases h
        exact sx_swi_ok C hok hq (K ρ (sx_ge_rf ρ))
      · split at h
        · rename_i q hq
          cases h
          obtain ⟨L1, S1, w1, nx1, dc, ds⟩ := q
          exact sx_mem_ok C htb hcl hok hq hc hs K
        · cases h
/-! calls -/
theorem sx_RS.len : ∀ {vs : List sx_V} {xs : List Value}, sx_RS ρ z σ vs xs → xs.length = vs.length
  | [], [], _ => rfl
  | v :: vs, x :: xs, h => by show xs.length + 1 = vs.length + 1; rw [sx_RS.len h.2]
  | [], _ :: _, h => h.elim
  | _ :: _, [], h => h.elim
theorem sx_RS.split : ∀ {n : Nat} {vs : List sx_V} {xs : List Value}, sx_RS ρ z σ vs xs → sx_RS ρ z σ (vs.take n) (xs.take n) ∧ sx_RS ρ z σ (vs.drop n) (xs.drop n)
  | 0, vs, xs, h => ⟨trivial, h⟩
  | n + 1, [], [], _ => ⟨trivial, trivial⟩
  | n + 1, v :: vs, x :: xs, h => ⟨⟨h.1, (sx_RS.split (n := n) h.2).1⟩, (sx_RS.split (n := n) h.2).2⟩
  | _ + 1, [], _ :: _, h => h.elim
  | _ + 1, _ :: _, [], h => h.elim
theorem sx_RS.app : ∀ {vs us : List sx_V} {xs ys : List Value}, sx_RS ρ z σ vs xs → sx_RS ρ z σ us ys → sx_RS ρ z σ (vs ++ us) (xs ++ ys)
  | [], _, [], _, _, h => h
  | _ :: _, _, _ :: _, _, h1, h2 => ⟨h1.1, sx_RS.app h1.2 h2⟩
  | [], _, _ :: _, _, h, _ => h.elim
  | _ :: _, _, [], _, h, _ => h.elim
theorem sx_RS.rev : ∀ {vs : List sx_V} {xs : List Value}, sx_RS ρ z σ vs xs → sx_RS ρ z σ vs.reverse xs.reverse
  | [], [], _ => trivial
  | v :: vs, x :: xs, h => by
    rw [List.reverse_cons, List.reverse_cons]
    exact sx_RS.app (sx_RS.rev h.2) ⟨h.1, trivial⟩
  | [], _ :: _, h => h.elim
  | _ :: _, [], h => h.elim
theorem sx_ent_ok : ∀ {vs : List sx_V} {xs : List Value} (i : Nat), sx_RS ρ z σ vs xs → sx_RLs ρ z σ (sx_ent i vs) (lv_args i xs)
  | [], [], _, _ => trivial
  | v :: vs, x :: xs, i, h => by
    refine ⟨rfl, h.1, ?_⟩
    have hc := sx_cat h.1
    cases hl : sx_isL v with
    | true =>
      have := sx_cat2 h.1 hl
      show sx_RLs ρ z σ (sx_ent (i + 2) vs) (lv_args (if x.category = 2 then i + 2 else i + 1) xs)
      rw [if_pos this]
      exact sx_ent_ok (i + 2) h.2
    | false =>
      have := sx_cat1 h.1 hl
      show sx_RLs ρ z σ (sx_ent (i + 1) vs) (lv_args (if x.category = 2 then i + 2 else i + 1) xs)
      rw [if_neg (by omega)]
      exact sx_ent_ok (i + 1) h.2
  | [], _ :: _, _, h => h.elim
  | _ :: _, [], _, h => h.elim
theorem sx_sl_ok : ∀ {vs : List sx_V} {xs : List Value}, sx_RS ρ z σ vs xs → (lg_sl xs).length = sx_sl vs ∧ (xs.map fun v => v.category).sum = sx_sl vs
  | [], [], _ => ⟨rfl, rfl⟩
  | v :: vs, x :: xs, h => by
    obtain ⟨h1, h2⟩ := sx_sl_ok h.2
    have e : lg_sl (x :: xs) = (if x.category = 2 then [Slot.val x, .second] else [.val x]) ++ lg_sl xs := rfl
    rw [e, List.length_append, h1, List.map_cons, List.sum_cons, h2]
    show _ = (bif sx_isL v then 2 else 1) + sx_sl vs ∧ _ = (bif sx_isL v then 2 else 1) + sx_sl vs
    cases hl : sx_isL v with
    | true => have q := sx_cat2 h.1 hl; rw [if_pos q, q]; exact ⟨rfl, rfl⟩
    | false => have q := sx_cat1 h.1 hl; rw [if_neg (by omega), q]; exact ⟨rfl, rfl⟩
  | [], _ :: _, h => h.elim
  | _ :: _, [], h => h.elim
/-- the pure part of what the state in symbols says of a list of cells -/
def sx_PI (cA : Nat → ClassId) (ρ : Nat → Option Nat) (z : Nat → Nat) (σ : Nat → Int) (Fr : va_W) (w : sx_W) (nx : Nat) (wl : va_W) : Prop :=
  sx_Rep ρ z σ cA w wl ∧ (∀ i a, ρ i = some a → i < nx ∧ ∃ (k : Nat) (e : va_E), wl[k]? = some (a, e)) ∧ (∀ i j a, ρ i = some a → ρ j = some a → i = j) ∧ (∀ x ∈ Fr, (∃ k : Nat, wl[k]? = some x) ∧ ∀ i, ρ i ≠ some x.1)
theorem sx_IN.pi {wl : va_W} {H : Heap} (h : sx_IN D cA ρ z σ Fr A w nx wl H) : sx_PI cA ρ z σ Fr w nx wl := ⟨h.1, h.2.1, h.2.2.1, h.2.2.2.1⟩
theorem sx_PI.in {wl : va_W} {H : Heap} (h : sx_PI cA ρ z σ Fr w nx wl) (hP : va_P D vwCl wl H) (hD : va_D A wl) : sx_IN D cA ρ z σ Fr A w nx wl H := ⟨h.1, h.2.1, h.2.2.1, h.2.2.2, hP, hD⟩
/-- a method's end, whatever it answers -/
def sx_Q {T : Type} (post : Option Value → T → Prop) (Bs : T → State → Prop) (A : Nat → Prop) : Array Value → State → Outcome → State → Prop := fun _ st oc t => (∃ (v : Option Value) (u : T), oc = .returned v ∧ post v u ∧ Bs u t) ∧ va_F A st t
theorem sx_callW {T : Type} {post : Option Value → T → Prop} {Bs : T → State → Prop} {H H0 : Heap} {locs : List Loc} {mc ms : Nat} {ls : Array Slot} {rest st0 : List Value} {a : Array Value} {A0 A1 free : Nat → Prop}
    (hr : va_Run p l e R s m args below meth c H locs cells slots mc ms (F0 m pc ls st0) rest (sx_Q post Bs A1 a) free) (hS : va_S A0 H0 H locs) (hA : ∀ q, q < H.size → A1 q → A0 q) (hf : ∀ q, free q → A0 q)
    (kk : ∀ (v : Option Value) (u : T) (t : State) (H1 : Heap) (locs1 : List Loc), t.heap = H1 → s.vm.Alike t.vm → post v u → Bs u t → va_S A0 H0 H1 locs1 → W p l e R s m args below meth c H1 locs1 (cells + mc) (slots + ms) Q (F0 m (pc + 3) ls (v.toList ++ rest))) : W p l e R s m args below meth c H locs cells slots Q (F0 m pc ls st0) := by
  intro T0 hT X
  obtain ⟨v, st₀, t, T', Lo, h0, X', hL, e1, e2, ⟨⟨v', u, hv, hp, hb⟩, hz, hk⟩, st⟩ := hr T0 hT X
  cases hv
  rw [h0] at hz hk
  obtain ⟨t2, a1, b1⟩ := kk v u t T'.heap (locs ++ Lo) e1.symm (by rw [← e2]; exact X'.warmed.alike) hp hb
    ⟨Nat.le_trans hS.1 (by rw [e1]; exact hz), fun q h1 h2 => by rw [e1, hk q (Nat.lt_of_lt_of_le h1 hS.1) (fun z9 => h2 (hA q (Nat.lt_of_lt_of_le h1 hS.1) z9))]; exact hS.2.1 q h1 h2, fun q hq => by
      rcases List.mem_append.mp hq with h | h
      · exact hS.2.2 q h
      · exact hf _ (hL q h)⟩ T' rfl X'
  exact ⟨t2, st t2 a1, b1⟩
/-- what a method finds at its start -/
def sx_Pre (D : va_G) (cA : Nat → ClassId) (z : Nat → Nat) (wl : va_W) (sz : Nat) : State → Prop := fun U => U.heap.size = sz ∧ va_P D vwCl wl U.heap ∧ va_K D vwCl (sx_tys cA) U ∧ va_D (fun _ => True) wl ∧ SR z (va_A wl sz) U U.heap
theorem sx_blind {av : List Value} {wl : va_W} {sz : Nat} : FrameBlind (va_Pc av (sx_Pre D cA z wl sz)) := fun a U g mk q => by
  obtain ⟨q0, q1, qP, qK, qD, qZ⟩ := q
  exact ⟨q0, q1, qP, va_K.moved (u := U) (U := U.calling g mk a) (Vm.Alike.refl U.vm) qK, qD, SR.moved (u := U) (U := U.calling g mk a) (State.WarmedH.refl U) qZ⟩
abbrev sx_ws (M : sx_M) (tb : List Cond) : List Cond := Cond.code M.1 M.2.1 M.2.2.1 M.2.2.2.1 :: tb
abbrev sx_post (cA : Nat → ClassId) (ρ : Nat → Option Nat) (z : Nat → Nat) (σ : Nat → Int) (Fr : va_W) (w : sx_W) (nx : Nat) (rv : List sx_V) : Option Value → (Nat → Option Nat) × va_W → Prop := fun v u => sx_ge ρ u.1 ∧ sx_RS u.1 z σ rv v.toList ∧ sx_PI cA u.1 z σ Fr w nx u.2
abbrev sx_Bst (D : va_G) (A : Nat → Prop) : (Nat → Option Nat) × va_W → State → Prop := fun u t => va_P D vwCl u.2 t.heap ∧ va_D A u.2
end SXE
/-- what a step outside of this text (a contract of its own) has to keep -/
def sx_PR (P : Nat → Option sx_M) (tbs : List (List Cond)) (tb : List Cond) (B : sx_Bs) (pr : sx_Pr) : Prop := ∀ (fr lo : Nat) (M : sx_M) (x : sx_R) (c0 c1 : sx_S), pr fr lo M x c0 = some c1 → (∃ mi, P mi = some M) → sx_row M c0.1 = some x →
  (c0.2.2.2.2.2.1 ≤ c1.2.2.2.2.2.1 ∧ c0.2.2.2.2.2.2 ≤ c1.2.2.2.2.2.2) ∧
  ∀ (p : Program) (l : Launch) (e : Env) (R : Room) (s : State) (m : MethodId) (args : Array Value) (below : List Frame) (meth : Method) (c : Code) (Q : State → Prop) (D : va_G) (cA : Nat → ClassId) (z : Nat → Nat) (σ : Nat → Int) (Fr : va_W) (A : Nat → Prop) (ρ : Nat → Option Nat),
    fr ≤ R.frames → lo ≤ R.locals → c1.2.2.2.2.2.1 ≤ R.cells → c1.2.2.2.2.2.2 ≤ R.slots → sx_CX p s m args meth c D cA z σ B A tb M.1.cls M.1.name M.2.1 M.2.2.1 →
    (∀ ρ', sx_ge ρ ρ' → sx_KM p l e R s m args below meth c Q D cA z σ Fr A M.2.2.1 (sx_rpc M c1.1) c1.2.2.2.2.2.1 c1.2.2.2.2.2.2 ρ' c1.2.1 c1.2.2.1 c1.2.2.2.1 c1.2.2.2.2.1) →
    sx_KM p l e R s m args below meth c Q D cA z σ Fr A M.2.2.1 (sx_rpc M c0.1) c0.2.2.2.2.2.1 c0.2.2.2.2.2.2 ρ c0.2.1 c0.2.2.1 c0.2.2.2.1 c0.2.2.2.2.1
/-- a run in symbols says what the machine does -/
def sx_SND (P : Nat → Option sx_M) (tb : List Cond) (B : sx_Bs) (pr : sx_Pr) (n : Nat) : Prop := ∀ (fr lo : Nat) (M : sx_M) (stop : Nat) (fst : Bool) (c0 c1 : sx_S), (∃ mi, P mi = some M) → sx_ex P B pr n fr lo M stop fst c0 = some c1 →
  (c0.2.2.2.2.2.1 ≤ c1.2.2.2.2.2.1 ∧ c0.2.2.2.2.2.2 ≤ c1.2.2.2.2.2.2) ∧
  ∀ (p : Program) (l : Launch) (e : Env) (R : Room) (s : State) (m : MethodId) (args : Array Value) (below : List Frame) (meth : Method) (c : Code) (Q : State → Prop) (D : va_G) (cA : Nat → ClassId) (z : Nat → Nat) (σ : Nat → Int) (Fr : va_W) (A : Nat → Prop) (ρ : Nat → Option Nat),
    fr ≤ R.frames → lo ≤ R.locals → c1.2.2.2.2.2.1 ≤ R.cells → c1.2.2.2.2.2.2 ≤ R.slots → sx_CX p s m args meth c D cA z σ B A tb M.1.cls M.1.name M.2.1 M.2.2.1 →
    (∀ ρ', sx_ge ρ ρ' → sx_KM p l e R s m args below meth c Q D cA z σ Fr A M.2.2.1 (sx_rpc M c1.1) c1.2.2.2.2.2.1 c1.2.2.2.2.2.2 ρ' c1.2.1 c1.2.2.1 c1.2.2.2.1 c1.2.2.2.2.1) →
    sx_KM p l e R s m args below meth c Q D cA z σ Fr A M.2.2.1 (sx_rpc M c0.1) c0.2.2.2.2.2.1 c0.2.2.2.2.2.2 ρ c0.2.1 c0.2.2.1 c0.2.2.2.1 c0.2.2.2.2.1
section SXF
variable {P : Nat → Option sx_M} {tbs : List (List Cond)} {tb : List Cond} {B : sx_Bs} {pr : sx_Pr}
theorem sx_met (hPG : sx_PG P tbs) {n : Nat} (IH : sx_SND P tb B pr n) {M : sx_M} (hM : ∃ mi, P mi = some M) (hpl : plainName M.1.cls = true) {fr lo : Nat} {vs : List sx_V} {w : sx_W} {nx : Nat} {c2 : sx_S} {rv : List sx_V} (hex : sx_ex P B pr n fr lo M 100000 true (0, sx_ent 0 vs, [], w, nx, 0, 0) = some c2) (hret : sx_ret B M c2 = some rv) (hsl : sx_sl vs ≤ M.2.2.1)
    (l : Launch) {D : va_G} {cA : Nat → ClassId} {z : Nat → Nat} {σ : Nat → Int} {Fr : va_W} {ρ : Nat → Option Nat} {wl : va_W} (hB : sx_okB σ B) {xs : List Value} (hxs : sx_RS ρ z σ vs xs) (hPI : sx_PI cA ρ z σ Fr w nx wl) (sz : Nat) :
    Met l M.1 (sx_ws M tb) ({ frames := fr, cells := c2.2.2.2.2.2.1, slots := c2.2.2.2.2.2.2, locals := lo }) (va_Pc xs (sx_Pre D cA z wl sz)) (sx_Q (sx_post cA ρ z σ Fr c2.2.2.2.1 c2.2.2.2.2.1 rv) (sx_Bst D (va_A wl sz)) (va_A wl sz)) c2.2.2.2.2.2.1 c2.2.2.2.2.2.2 (va_A wl sz) := by
  refine Met.ofW (cc := M.2.1) (maxL := M.2.2.1) (ret := M.2.2.2.1) hpl rfl ?_
  intro p e s m args below meth c s₁ Bd hml hv
  obtain ⟨rfl, hsz, hP, hK, hD0, hZ⟩ := hv
  subst hsz
  have hx := Bd.exec
  have hb := Bd.bytes
  have hr := Bd.returns
  have hts : ∀ w ∈ tb, w.before xs.toArray s = true := fun w hw => atoms_spec (ws := sx_ws M tb) Bd.pre w (List.mem_cons_of_mem _ hw)
  have hown : s.vm.findClass M.1.cls = some m.cls := findClass_of_methodNamed Bd.named
  have hlocks := Bd.notSynchronized
  have hnm : meth.name = M.1.name := (name_of_methodNamed Bd.named Bd.method).1
  have hD := hD0.self (sz := s.heap.size)
  have hA : ∀ q : Nat, s.heap.size ≤ q → va_A wl s.heap.size q := fun q h => Or.inr h
  have hS : va_S (va_A wl s.heap.size) s.heap s.heap [] := va_S.rf
  have C : sx_CX p s m xs.toArray meth c D cA z σ B (va_A wl s.heap.size) tb M.1.cls M.1.name M.2.1 M.2.2.1 := ⟨hx, hb, hml, hts, hown, hK, hZ, hB, hA, hnm⟩
  have hl := lv_entry xs (n := M.2.2.1) (by rw [(sx_sl_ok hxs).1]; exact hsl)
  rw [lg_entry_eq]
  obtain ⟨mi, hmi⟩ := hM
  have h0 := (hPG mi M hmi).1
  have main := (IH fr lo M 100000 true _ c2 ⟨mi, hmi⟩ hex).2 p l e (headSpec (sx_ws M tb) ({ frames := fr, cells := c2.2.2.2.2.2.1, slots := c2.2.2.2.2.2.2, locals := lo })).room s m xs.toArray below meth c (MQ below (sx_Q (sx_post cA ρ z σ Fr c2.2.2.2.1 c2.2.2.2.2.1 rv) (sx_Bst D (va_A wl s.heap.size)) (va_A wl s.heap.size)) xs.toArray s c2.2.2.2.2.2.1 c2.2.2.2.2.2.2 (va_A wl s.heap.size)) D cA z σ Fr (va_A wl s.heap.size) ρ (Nat.le_refl fr) (Nat.le_refl lo) (Nat.le_refl _) (Nat.le_refl _) C ?_
  · have := main wl s.heap [] (hPI.in hP hD) hS _ _ [] hl (sx_ent_ok 0 hxs) trivial
    rw [show sx_rpc M (0, sx_ent 0 vs, [], w, nx, 0, 0).1 = 0 from h0] at this
    exact this
  · intro ρ' hge wl' H' locs' hI' hS' ls lv st hl' hL' hSt'
    unfold sx_ret at hret
    split at hret
    · cases hret
    · rename_i x hrow
      have hok := (hPG mi M hmi).2.2 _ _ hrow
      obtain ⟨pc0, ins, len, aux, cst⟩ := x
      have hpc : sx_rpc M c2.1 = pc0 := by unfold sx_rpc; rw [hrow]
      rw [hpc]
      have hdec : ∀ {ins : Instr}, (decide (decode M.2.1 pc0 = .ok (ins, len)) && Nat.beq len 1) = true → decode M.2.1 pc0 = .ok (ins, 1) := fun {ins} q => by
        rw [Bool.and_eq_true] at q
        have e1 := of_decide_eq_true q.1
        rw [Nat.eq_of_beq_eq_true q.2] at e1
        exact e1
      have fin : ∀ {v : Option Value}, sx_RS ρ' z σ rv v.toList → ∀ t : State, t.heap = H' → s.WarmedH t.vm → sx_Q (sx_post cA ρ z σ Fr c2.2.2.2.1 c2.2.2.2.2.1 rv) (sx_Bst D (va_A wl s.heap.size)) (va_A wl s.heap.size) xs.toArray s (.returned v) t := fun {v} hv t ht hW =>
        ⟨⟨v, (ρ', wl'), rfl, ⟨hge, hv, hI'.pi⟩, by rw [ht]; exact hI'.2.2.2.2.1, hI'.2.2.2.2.2⟩, hS'.F ht⟩
      split at hret
      · rename_i v ty hins hS1 hret9
        have hins : ins = .ireturn := hins
        subst hins
        cases hcd : (Nat.blt (sx_code ty) 4 && sx_fit B (sx_code ty) (.inl v)) with
        | false => simp only [hcd] at hret; cases hret
        | true =>
          simp only [hcd, cond_true] at hret
          cases hret
          rw [Bool.and_eq_true] at hcd
          rw [hS1] at hSt'
          obtain ⟨y, q, rfl, hy, hq⟩ := hSt'.int
          have := hq.nil
          subst this
          exact W.zret hx hb (hr.trans hret9) (sx_fit_ok hB hcd.2 (sx_RVi (ρ := ρ') (z := z) hy) rfl).1 (fin ⟨sx_RVi hy, trivial⟩) hS'.2.2 (hdec hok) hlocks
      · rename_i v hins hS1 hret9
        have hins : ins = .lreturn := hins
        subst hins
        cases hret
        rw [hS1] at hSt'
        obtain ⟨y, q, rfl, hy, hq⟩ := hSt'.long
        have := hq.nil
        subst this
        exact W.lret hx hb (hr.trans hret9) (fin ⟨sx_RVl hy, trivial⟩) hS'.2.2 (hdec hok) hlocks
      · rename_i v nm hins hS1 hret9
        have hins : ins = .areturn := hins
        subst hins
        cases hret
        rw [hS1] at hSt'
        obtain ⟨o, q, rfl, hy, hq⟩ := hSt'.ref
        have := hq.nil
        subst this
        exact W.aret hx hb (hr.trans hret9) (Or.inl ⟨nm, rfl⟩) (by cases o with | none => exact Or.inl rfl | some a => exact Or.inr ⟨a, rfl⟩) (fin ⟨sx_RVr hy, trivial⟩) hS'.2.2 (hdec hok) hlocks
      · rename_i v nm hins hS1 hret9
        have hins : ins = .areturn := hins
        subst hins
        cases hret
        rw [hS1] at hSt'
        obtain ⟨o, q, rfl, hy, hq⟩ := hSt'.ref
        have := hq.nil
        subst this
        exact W.aret hx hb (hr.trans hret9) (Or.inr ⟨nm, rfl⟩) (by cases o with | none => exact Or.inl rfl | some a => exact Or.inr ⟨a, rfl⟩) (fin ⟨sx_RVr hy, trivial⟩) hS'.2.2 (hdec hok) hlocks
      · rename_i hins hS1 hret9
        have hins : ins = .return_ := hins
        subst hins
        cases hret
        rw [hS1] at hSt'
        have := hSt'.nil
        subst this
        exact W.vret hx hb (hr.trans hret9) (fin (v := none) trivial) hS'.2.2 (hdec hok) hlocks
      · cases hret
end SXF
