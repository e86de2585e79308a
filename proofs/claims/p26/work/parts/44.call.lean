/-! a method's whole run, called -/
section SXCL
variable {P : Nat → Option sx_M} {tbs : List (List Cond)} {tb : List Cond} {B : sx_Bs} {pr : sx_Pr}
theorem sx_met3 (hPG : sx_PG P tbs) {M : sx_M} (hM : ∃ mi, P mi = some M) (hpl : plainName M.1.cls = true) {fr lo dk ds rr nx nx1 : Nat} {vs S1 rv : List sx_V} {L1 : List (Nat × sx_V)} {w w1 : sx_W} {z : Nat → Nat} {σ : Nat → Int} (hsg : sx_Sg tb M fr lo dk ds z σ (0, sx_ent 0 vs, [], w, nx) (rr, L1, S1, w1, nx1)) (hret : sx_ret B M (rr, L1, S1, w1, nx1, 0, 0) = some rv) (hsl : sx_sl vs ≤ M.2.2.1) {fr2 lo2 : Nat} (hfr2 : fr ≤ fr2) (hlo2 : lo ≤ lo2)
    (l : Launch) {D : va_G} {cA : Nat → ClassId} {Fr : va_W} {ρ : Nat → Option Nat} {wl : va_W} (hB : sx_okB σ B) {xs : List Value} (hxs : sx_RS ρ z σ vs xs) (hPI : sx_PI cA ρ z σ Fr w nx wl) (sz : Nat) :
    Met l M.1 (sx_ws M tb) ({ frames := fr2, cells := dk, slots := ds, locals := lo2 }) (va_Pc xs (sx_Pre D cA z wl sz)) (sx_Q (sx_post cA ρ z σ Fr w1 nx1 rv) (sx_Bst D (va_A wl sz)) (va_A wl sz)) dk ds (va_A wl sz) := by
  refine Met.ofW (cc := M.2.1) (maxL := M.2.2.1) (ret := M.2.2.2.1) hpl rfl ?_
  intro p e s m args below meth c s₁ Bd hml hv
  obtain ⟨rfl, hsz, hP, hK, hD0, hZ⟩ := hv
  subst hsz
  have hx := Bd.exec
  have hb := Bd.bytes
  have hr := Bd.returns
  have hts : ∀ w ∈ tb, w.before xs.toArray s = true := fun w hw => atoms_spec (ws := sx_ws M tb) Bd.pre w (List.mem_cons_of_mem _ hw)
  have hown : s.vm.findClass M.1.cls = some m.cls := findClass_of_methodNamed Bd.named
  have hlocks := Bd.notSynchronized
  have hnm : meth.name = M.1.name := (name_of_methodNamed Bd.named Bd.method).1
  have hD := hD0.self (sz := s.heap.size)
  have hA : ∀ q : Nat, s.heap.size ≤ q → va_A wl s.heap.size q := fun q h => Or.inr h
  have hS : va_S (va_A wl s.heap.size) s.heap s.heap [] := va_S.rf
  have C : sx_CX p s m xs.toArray meth c D cA z σ [] (va_A wl s.heap.size) tb M.1.cls M.1.name M.2.1 M.2.2.1 := ⟨hx, hb, hml, hts, hown, hK, hZ, fun q hq => (nomatch hq), hA, hnm⟩
  have hl := lv_entry xs (n := M.2.2.1) (by rw [(sx_sl_ok hxs).1]; exact hsl)
  rw [lg_entry_eq]
  obtain ⟨mi, hmi⟩ := hM
  have h0 := (hPG mi M hmi).1
  have main := hsg p l e (headSpec (sx_ws M tb) ({ frames := fr2, cells := dk, slots := ds, locals := lo2 })).room s m xs.toArray below meth c (MQ below (sx_Q (sx_post cA ρ z σ Fr w1 nx1 rv) (sx_Bst D (va_A wl s.heap.size)) (va_A wl s.heap.size)) xs.toArray s dk ds (va_A wl s.heap.size)) D cA Fr (va_A wl s.heap.size) ρ 0 0 hfr2 hlo2 (Nat.le_of_eq (Nat.zero_add dk)) (Nat.le_of_eq (Nat.zero_add ds)) C (fun ρ' hge => ?_)
  · have := main wl s.heap [] (hPI.in hP hD) hS _ _ [] hl (sx_ent_ok 0 hxs) trivial
    rw [show sx_rpc M (0, sx_ent 0 vs, [], w, nx).1 = 0 from h0] at this
    exact this
  · rw [Nat.zero_add, Nat.zero_add]
    intro wl' H' locs' hI' hS' ls lv st hl' hL' hSt'
    unfold sx_ret at hret
    split at hret
    · cases hret
    · rename_i x hrow
      have hok := (hPG mi M hmi).2.2 _ _ hrow
      obtain ⟨pc0, ins, len, aux, cst⟩ := x
      have hpc : sx_rpc M rr = pc0 := by unfold sx_rpc; rw [hrow]
      rw [hpc]
      have hdec : ∀ {ins : Instr}, (decide (decode M.2.1 pc0 = .ok (ins, len)) && Nat.beq len 1) = true → decode M.2.1 pc0 = .ok (ins, 1) := fun {ins} q => by
        rw [Bool.and_eq_true] at q
        have e1 := of_decide_eq_true q.1
        rw [Nat.eq_of_beq_eq_true q.2] at e1
        exact e1
      have fin : ∀ {v : Option Value}, sx_RS ρ' z σ rv v.toList → ∀ t : State, t.heap = H' → s.WarmedH t.vm → sx_Q (sx_post cA ρ z σ Fr w1 nx1 rv) (sx_Bst D (va_A wl s.heap.size)) (va_A wl s.heap.size) xs.toArray s (.returned v) t := fun {v} hv t ht hW =>
        ⟨⟨v, (ρ', wl'), rfl, ⟨hge, hv, hI'.pi⟩, by rw [ht]; exact hI'.2.2.2.2.1, hI'.2.2.2.2.2⟩, hS'.F ht⟩
      split at hret
      · rename_i v ty hins hS1 hret9
        have hins : ins = .ireturn := hins
        subst hins
        cases hcd : (Nat.blt (sx_code ty) 4 && sx_fit B (sx_code ty) (.inl v)) with
        | false => simp only [hcd] at hret; cases hret
        | true =>
          simp only [hcd, cond_true] at hret
          cases hret
          rw [Bool.and_eq_true] at hcd
          rw [hS1] at hSt'
          obtain ⟨y, q, rfl, hy, hq⟩ := hSt'.int
          have := hq.nil
          subst this
          exact W.zret hx hb (hr.trans hret9) (sx_fit_ok hB hcd.2 (sx_RVi (ρ := ρ') (z := z) hy) rfl).1 (fin ⟨sx_RVi hy, trivial⟩) hS'.2.2 (hdec hok) hlocks
      · rename_i v hins hS1 hret9
        have hins : ins = .lreturn := hins
        subst hins
        cases hret
        rw [hS1] at hSt'
        obtain ⟨y, q, rfl, hy, hq⟩ := hSt'.long
        have := hq.nil
        subst this
        exact W.lret hx hb (hr.trans hret9) (fin ⟨sx_RVl hy, trivial⟩) hS'.2.2 (hdec hok) hlocks
      · rename_i v nm hins hS1 hret9
        have hins : ins = .areturn := hins
        subst hins
        cases hret
        rw [hS1] at hSt'
        obtain ⟨o, q, rfl, hy, hq⟩ := hSt'.ref
        have := hq.nil
        subst this
        exact W.aret hx hb (hr.trans hret9) (Or.inl ⟨nm, rfl⟩) (by cases o with | none => exact Or.inl rfl | some a => exact Or.inr ⟨a, rfl⟩) (fin ⟨sx_RVr hy, trivial⟩) hS'.2.2 (hdec hok) hlocks
      · rename_i v nm hins hS1 hret9
        have hins : ins = .areturn := hins
        subst hins
        cases hret
        rw [hS1] at hSt'
        obtain ⟨o, q, rfl, hy, hq⟩ := hSt'.ref
        have := hq.nil
        subst this
        exact W.aret hx hb (hr.trans hret9) (Or.inr ⟨nm, rfl⟩) (by cases o with | none => exact Or.inl rfl | some a => exact Or.inr ⟨a, rfl⟩) (fin ⟨sx_RVr hy, trivial⟩) hS'.2.2 (hdec hok) hlocks
      · rename_i hins hS1 hret9
        have hins : ins = .return_ := hins
        subst hins
        cases hret
        rw [hS1] at hSt'
        have := hSt'.nil
        subst this
        exact W.vret hx hb (hr.trans hret9) (fin (v := none) trivial) hS'.2.2 (hdec hok) hlocks
      · cases hret
/-- a call: the callee's run is a segment of its own -/
theorem sx_Sg.call (hPG : sx_PG P tbs) (htb : sx_tbOK tbs tb) (hgood : ∀ w ∈ tb, (w.onTables && w.keeps) = true ∨ ∃ ty, w = .arrayClass ty) {M M' : sx_M} {mi mj : Nat} (hM : P mi = some M) (hM' : P mj = some M') {x : sx_R} {r nx nx1 rr fr lo fr1 lo1 dk ds : Nat} {L L1 : List (Nat × sx_V)} {S S' S1 vs rv : List sx_V} {w w1 : sx_W} {z : Nat → Nat} {σ : Nat → Int}
    (hrow : sx_row M r = some x) (hpl : plainName M'.1.cls = true) (hp : sx_prep P x (r, L, S, w, nx, 0, 0) = some (M', vs, S')) (h1 : 1 ≤ fr) (h2 : M'.2.2.1 + 19 ≤ lo) (h3 : fr1 ≤ fr - 1) (h4 : lo1 ≤ lo - (M'.2.2.1 + 19)) (h5 : sx_sl vs ≤ M'.2.2.1) (h6 : sx_sl S' ≤ 8) (hB : sx_okB σ B)
    (hsg : sx_Sg tb M' fr1 lo1 dk ds z σ (0, sx_ent 0 vs, [], w, nx) (rr, L1, S1, w1, nx1)) (hret : sx_ret B M' (rr, L1, S1, w1, nx1, 0, 0) = some rv) : sx_Sg tb M fr lo dk ds z σ (r, L, S, w, nx) (r + 1, L, rv ++ S', w1, nx1) := by
  intro p l e R s m args below meth c Q D cA Fr A ρ k n hfr hlo hk hn C K
  have hok := (hPG mi M hM).2.2 _ _ hrow
  obtain ⟨pc0, ins, len, aux, cst⟩ := x
  have hpc : sx_rpc M r = pc0 := by unfold sx_rpc; rw [hrow]
  show sx_KM p l e R s m args below meth c Q D cA z σ Fr A M.2.2.1 (sx_rpc M r) k n ρ L S w nx
  rw [hpc]
  have hp : sx_prep P (pc0, ins, len, aux, cst) (r, L, S, w, nx, k, n) = some (M', vs, S') := hp
  refine sx_call_ok (B := []) hPG C htb hgood hok hp h1 h2 hfr hlo h6 hk hn (fun wl xs sz hxs hPI => sx_met3 hPG ⟨mj, hM'⟩ hpl hsg hret h5 h3 h4 l hB hxs hPI sz) (fun ρ' hg => K ρ' hg)
end SXCL
