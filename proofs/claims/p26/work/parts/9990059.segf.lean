/-! segments for which the law's argument stands in the frame -/
def xZ (b ns : Nat) (f : Nat → Int32) (s : State) (A : Nat → Prop) : Prop := va_X b ns f s s.heap ∧ b < s.heap.size ∧ ¬ A b
def sx_SgF (ns : Nat) (f : Nat → Int32) (tb : List Cond) (M : sx_M) (fr lo dk ds : Nat) (z : Nat → Nat) (σ : Nat → Int) (c0 c1 : sx_Pt) : Prop :=
  ∀ (p : Program) (l : Launch) (e : Env) (R : Room) (s : State) (m : MethodId) (args : Array Value) (below : List Frame) (meth : Method) (c : Code) (Q : State → Prop) (D : va_G) (cA : Nat → ClassId) (Fr : va_W) (A : Nat → Prop) (ρ : Nat → Option Nat) (k n : Nat),
    xZ (z 4) ns f s A → fr ≤ R.frames → lo ≤ R.locals → k + dk ≤ R.cells → n + ds ≤ R.slots → sx_CX p s m args meth c D cA z σ [] A tb M.1.cls M.1.name M.2.1 M.2.2.1 →
    (∀ ρ', sx_ge ρ ρ' → sx_KM p l e R s m args below meth c Q D cA z σ Fr A M.2.2.1 (sx_rpc M c1.1) (k + dk) (n + ds) ρ' c1.2.1 c1.2.2.1 c1.2.2.2.1 c1.2.2.2.2) →
    sx_KM p l e R s m args below meth c Q D cA z σ Fr A M.2.2.1 (sx_rpc M c0.1) k n ρ c0.2.1 c0.2.2.1 c0.2.2.2.1 c0.2.2.2.2
section SXF
variable {ns : Nat} {f : Nat → Int32} {tb : List Cond} {M : sx_M} {fr lo dk ds : Nat} {z : Nat → Nat} {σ : Nat → Int} {c0 c1 c2 : sx_Pt}
theorem sx_Sg.F (h : sx_Sg tb M fr lo dk ds z σ c0 c1) : sx_SgF ns f tb M fr lo dk ds z σ c0 c1 := fun p l e R s m args below meth c Q D cA Fr A ρ k n _ => h p l e R s m args below meth c Q D cA Fr A ρ k n
theorem sx_SgF.trans {dk1 ds1 dk2 ds2 : Nat} (h1 : sx_SgF ns f tb M fr lo dk1 ds1 z σ c0 c1) (h2 : sx_SgF ns f tb M fr lo dk2 ds2 z σ c1 c2) : sx_SgF ns f tb M fr lo (dk1 + dk2) (ds1 + ds2) z σ c0 c2 := by
  intro p l e R s m args below meth c Q D cA Fr A ρ k n hX hfr hlo hk hn C K
  refine h1 p l e R s m args below meth c Q D cA Fr A ρ k n hX hfr hlo (by omega) (by omega) C (fun ρ1 hg1 => ?_)
  refine h2 p l e R s m args below meth c Q D cA Fr A ρ1 _ _ hX hfr hlo (by omega) (by omega) C (fun ρ2 hg2 => ?_)
  rw [Nat.add_assoc, Nat.add_assoc]
  exact K ρ2 (hg1.tr hg2)
theorem sx_SgF.use {r0 r1 : Nat} {L0 L1 : List (Nat × sx_V)} {S0 S1 : List sx_V} {pre post : List sx_C} (fs : List Nat) (γ : List (Nat × sx_F)) (θ : List (Nat × sx_I)) {c : sx_Pt}
    (hseg : ∀ z' : Nat → Nat, ∃ w1, (∀ (i : Nat) (c : sx_C), post[i]? = some c → sx_look 12 w1 i = some c) ∧ sx_SgF ns f tb M fr lo dk ds z' (sx_σi θ σ) (r0, L0, S0, sx_mkw 0 pre, pre.length) (r1, L1, S1, w1, post.length)) (hr : c.1 = r0) (hlen : pre.length ≤ post.length) (hck : sx_ckI fs γ θ L0 S0 pre c = true) :
    sx_SgF ns f tb M fr lo dk ds z σ c (r1, sx_iU (sx_fi fs c.2.2.2.2) γ θ L1, sx_iS (sx_fi fs c.2.2.2.2) γ θ S1, sx_puts (sx_fi fs c.2.2.2.2) γ θ 0 post c.2.2.2.1, c.2.2.2.2 + (post.length - pre.length)) := by
  obtain ⟨r, L, S, w, nx⟩ := c
  have hr : r = r0 := hr
  subst hr
  have hck : (sx_ckc (sx_fi fs nx) γ θ w pre fs && sx_nod fs && sx_ckγ w γ && sx_ckL (sx_fi fs nx) γ θ L L0 && sx_eqS S (sx_iS (sx_fi fs nx) γ θ S0)) = true := hck
  rw [Bool.and_eq_true, Bool.and_eq_true, Bool.and_eq_true, Bool.and_eq_true] at hck
  obtain ⟨⟨⟨⟨k1, k2⟩, k3⟩, k4⟩, k5⟩ := hck
  have k5 := sx_eqS_ok k5
  intro p l e R s m args below meth c Q D cA Fr A ρ k n hX hfr hlo hk hn C K wl H locs hI hS ls lv st hl hLv hSt
  have hγ := sx_ckγ_ok hI.pi k3
  have hIs := (hI.pi.inst k1 k2 hγ).in hI.2.2.2.2.1 hI.2.2.2.2.2
  obtain ⟨w1, hpost, hsg⟩ := hseg (sx_zi γ ρ z)
  obtain ⟨lv0, l1, l2⟩ := sx_ckL_ok (sx_Ru_back hI.pi) hγ hLv k4
  obtain ⟨hx, hcc, hml, hts, hown, hK, hZ, hB, hA, hnm⟩ := C
  have hSt : sx_RS ρ z σ S st := hSt
  rw [k5] at hSt
  have hXs : xZ (sx_zi γ ρ z 4) ns f s A := by
    rw [show sx_zi γ ρ z 4 = z 4 from sx_zi_lo (by decide)]
    exact hX
  refine hsg p l e R s m args below meth c Q D cA (sx_Fs ρ fs wl) A (sx_Ru ρ fs) k n hXs hfr hlo hk hn ⟨hx, hcc, hml, hts, hown, hK, hZ.zz (fun i hi => sx_zi_lo hi), fun q hq => (nomatch hq), hA, hnm⟩ (fun ρ1 hg1 => ?_) wl H locs hIs hS ls lv0 st ⟨hl.1, hl.2.1, fun x hx => hl.2.2 x (l2 x hx)⟩ l1 (sx_iS_back (sx_Ru_back hI.pi) hγ hSt)
  intro wl1 H1 locs1 hI1 hS1 ls1 lv1 st1 hl1 hL1 hSt1
  obtain ⟨ρ2, g1, g2, g3⟩ := hI.pi.back k1 hγ hlen hg1 hpost hI1.pi
  exact K ρ2 g1 wl1 H1 locs1 (g3.in hI1.2.2.2.2.1 hI1.2.2.2.2.2) hS1 ls1 lv1 st1 hl1 (sx_iUl_fwd g2 g1 hγ hL1) (sx_iS_fwd g2 g1 hγ hSt1)
end SXF
theorem sx_ev1 (σ : Nat → Int) (u : Nat) : sx_ev σ (0, [(u, 1)]) = σ u := by
  show (0 : Int) + (1 * σ u + 0) = σ u
  omega
def l_low (v n : Int32) : Int32 := (v &&& 2147483647) - (v &&& 2147483647) / n * n
theorem xX_blind {b ns : Nat} {f : Nat → Int32} : ∀ (av : List Value) (D : va_G) (cA : Nat → ClassId) (z : Nat → Nat) (wl : va_W) (sz : Nat), FrameBlind (va_Pc av (fun U => sx_Pre D cA z wl sz U ∧ xX b ns f wl U)) := fun av D cA z wl sz a U g mk q => by
  obtain ⟨q0, q1, q2, q3⟩ := q
  have h9 := sx_blind (av := av) (D := D) (cA := cA) (z := z) (wl := wl) (sz := sz) a U g mk ⟨q0, q1⟩
  exact ⟨h9.1, h9.2, va_X.moved (u := U) (U := U.calling g mk a) (Vm.Alike.refl U.vm) q2, q3⟩
theorem xX_of {D : va_G} {cA : Nat → ClassId} {ρ : Nat → Option Nat} {z : Nat → Nat} {σ : Nat → Int} {Fr : va_W} {A : Nat → Prop} {w : sx_W} {nx : Nat} {s : State} {b ns : Nat} {f : Nat → Int32} (hX : xZ b ns f s A) {wl : va_W} {H : Heap} {locs : List Loc} (hI : sx_IN D cA ρ z σ Fr A w nx wl H) (hS : va_S A s.heap H locs) {U : State} (hU : U.heap = H) (hW : s.WarmedH U.vm) : xX b ns f wl U := by
  obtain ⟨h1, h2, h3⟩ := hX
  subst hU
  refine ⟨va_X.moved hW.alike (va_X.kept h1 (hS.2.1 b h2 h3)), fun h => ?_⟩
  rcases h with ⟨k, e, hk⟩ | h
  · exact h3 (hI.2.2.2.2.2.2 k (b, e) hk)
  · exact absurd (Nat.lt_of_lt_of_le h2 hS.1) (Nat.not_lt.mpr h)
section SXGE
variable {p : Program} {l : Launch} {e : Env} {R : Room} {s : State} {m : MethodId} {args : Array Value} {below : List Frame} {meth : Method} {c : Code} {Q : State → Prop}
variable {D : va_G} {cA : Nat → ClassId} {z : Nat → Nat} {σ : Nat → Int} {B : sx_Bs} {Fr : va_W} {A : Nat → Prop} {tbs : List (List Cond)} {tb : List Cond} {own mname : String} {cc : ByteArray} {nL pc cells slots : Nat}
variable {ρ : Nat → Option Nat} {L L' : List (Nat × sx_V)} {S S' : List sx_V} {w w' : sx_W} {nx nx' dc ds : Nat} {P : Nat → Option sx_M}
/-- the contract of the method that is called, of whatever receives it -/
theorem sx_callE_ok {E : va_W → State → Prop} (hEb : ∀ (av : List Value) (D : va_G) (cA : Nat → ClassId) (z : Nat → Nat) (wl : va_W) (sz : Nat), FrameBlind (va_Pc av (fun U => sx_Pre D cA z wl sz U ∧ E wl U))) (hE : ∀ (wl : va_W) (H : Heap) (locs : List Loc), sx_IN D cA ρ z σ Fr A w nx wl H → va_S A s.heap H locs → ∀ U : State, U.heap = H → s.WarmedH U.vm → E wl U) (hPG : sx_PG P tbs) {M M' : sx_M} (C : sx_CX p s m args meth c D cA z σ B A tb M.1.cls M.1.name M.2.1 M.2.2.1) (htb : sx_tbOK tbs tb) (hgood : ∀ w ∈ tb, (w.onTables && w.keeps) = true ∨ ∃ ty, w = .arrayClass ty) {r pc0 len : Nat} {ins : Instr} {aux : List Nat} {cst : Int} (hok : sx_okR P tbs M r (pc0, ins, len, aux, cst) = true)
    {k0 n0 : Nat} {vs S' rv : List sx_V} {fr lo mc ms : Nat} (h : sx_prep P (pc0, ins, len, aux, cst) (r, L, S, w, nx, k0, n0) = some (M', vs, S'))
    (hf1 : 1 ≤ fr) (hf2 : M'.2.2.1 + 19 ≤ lo) (hfr : fr ≤ R.frames) (hlo : lo ≤ R.locals) (h8 : sx_sl S' ≤ 8) (hc : k0 + mc ≤ R.cells) (hs : n0 + ms ≤ R.slots)
    (hM : ∀ (wl : va_W) (xs : List Value) (sz : Nat), sx_RS ρ z σ vs xs → sx_PI cA ρ z σ Fr w nx wl → Met l M'.1 (sx_ws M' tb) ({ frames := fr - 1, cells := mc, slots := ms, locals := lo - (M'.2.2.1 + 19) }) (va_Pc xs (fun U => sx_Pre D cA z wl sz U ∧ E wl U)) (sx_Q (sx_post cA ρ z σ Fr w' nx' rv) (sx_Bst D (va_A wl sz)) (va_A wl sz)) mc ms (va_A wl sz))
    (K : ∀ ρ', sx_ge ρ ρ' → sx_KM p l e R s m args below meth c Q D cA z σ Fr A M.2.2.1 (sx_rpc M (r + 1)) (k0 + mc) (n0 + ms) ρ' L (rv ++ S') w' nx') : sx_KM p l e R s m args below meth c Q D cA z σ Fr A M.2.2.1 pc0 k0 n0 ρ L S w nx := by
  intro wl H locs hI hS ls lv st hl hL hSt
  obtain ⟨hx, hb, hml, hts, hown, hK, hZ, hB, hA, hn⟩ := C
  unfold sx_prep at h
  cases hinv : sx_isinv ins with
  | false => simp only [hinv, Bool.not_false, cond_true] at h; cases h
  | true =>
    simp only [hinv, Bool.not_true, cond_false] at h
    obtain ⟨hd, hr3, hcall⟩ := sx_okinv hinv hok
    rw [hr3] at K
    have hFc : ∀ q, va_A wl H.size q → A q := by
      intro q hq
      rcases hq with ⟨k, e9, hk⟩ | hq
      · exact hI.2.2.2.2.2.2 k (q, e9) hk
      · exact hA q (Nat.le_trans hS.1 hq)
    have hCF : CallFix p m c M.2.1 M.2.2.1 s args tb M.1.cls := ⟨hx, hb, hml, hown, hts⟩
    have prei : ∀ {xs : List Value}, ∀ U : State, U.heap = H → s.WarmedH U.vm → va_Pc xs (fun U => sx_Pre D cA z wl H.size U ∧ E wl U) xs.toArray U := fun {xs} U hU hW =>
      ⟨rfl, ⟨by rw [hU], by rw [hU]; exact hI.2.2.2.2.1, va_K.moved hW.alike hK, hI.2.2.2.2.2.weaken (fun _ _ _ _ => trivial), by rw [hU]; exact SR.moved hW (SR.narrow (SR.kept hZ hS.2.1) hFc)⟩, hE wl H locs hI hS U hU hW⟩
    have hR : (fr - 1) + 1 ≤ R.frames ∧ 8 + (M'.2.2.1 + 11) + (lo - (M'.2.2.1 + 19)) ≤ R.locals := ⟨by omega, by omega⟩
    have go : ∀ {rest : List Value} {a : Array Value}, sx_RS ρ z σ S' rest → va_Run p l e R s m args below meth c H locs k0 n0 mc ms (F0 m pc0 ls st) rest (sx_Q (sx_post cA ρ z σ Fr w' nx' rv) (sx_Bst D (va_A wl H.size)) (va_A wl H.size) a) (va_A wl H.size) → W p l e R s m args below meth c H locs k0 n0 Q (F0 m pc0 ls st) := fun {rest a} hrest run =>
      sx_callW run hS (fun q _ h => hFc q h) hFc (fun v u t H1 locs1 ht hvm hp hb9 hS1 =>
        K u.1 hp.1 u.2 H1 locs1 (hp.2.2.in (by rw [← ht]; exact hb9.1) (hb9.2.weaken (fun k q _ h => hFc q.1 h))) hS1 ls lv (v.toList ++ rest) hl (hL.mono hp.1) (hp.2.1.app (hrest.mono hp.1)))
    split at h
    · rename_i kd mj n ci tl
      split at h
      · cases h
      · rename_i M1 hM1
        unfold sx_okcall at hcall
        split at hcall
        · rename_i kd' mj' n' ci' t1 t2 t3 t4 t5 t6 heq
          cases heq
          rw [hM1] at hcall
          simp only at hcall
          rw [Bool.and_eq_true, Bool.and_eq_true, Bool.and_eq_true, Bool.and_eq_true, Bool.and_eq_true] at hcall
          obtain ⟨⟨⟨⟨⟨c4, c5⟩, cnp⟩, cpl⟩, cym⟩, crest⟩ := hcall
          have hini := hts _ (sx_has_in htb c4)
          have mcode : Cond.code M1.1 M1.2.1 M1.2.2.1 M1.2.2.2.1 ∈ tb := by
            obtain ⟨t9, ht9⟩ := (hPG mj M1 hM1).2.1 (of_decide_eq_true c5)
            exact sx_w_in htb ht9
          have hnp := of_decide_eq_true cnp
          have cym : (decide (M1.1.cls ≠ "java/lang/invoke/MethodHandle") && decide (M1.1.cls ≠ "java/lang/invoke/VarHandle")) = true := cym
          rw [Bool.and_eq_true] at cym
          have hy1 := of_decide_eq_true cym.1
          have hy2 := of_decide_eq_true cym.2
          have hG : GoodIn tb (sx_ws M1 tb) := fun w9 hw9 => by
            rcases List.mem_cons.mp hw9 with rfl | hw9
            · exact ⟨mcode, hgood _ mcode⟩
            · exact ⟨hw9, hgood _ hw9⟩
          -- what static calls share
          have stat : ∀ {rest : List Value}, (bif Nat.ble n S.length then some (M1, (S.take n).reverse, S.drop n) else none) = some (M', vs, S') → M1 = M' ∧ ∃ As rest, As.length = n ∧ st = As.reverse ++ rest ∧ sx_RS ρ z σ vs As ∧ sx_RS ρ z σ S' rest ∧ (rest.map fun v => v.category).sum ≤ 8 := by
            intro _ h
            cases hle : Nat.ble n S.length with
            | false => rw [hle] at h; cases h
            | true =>
              rw [hle] at h
              cases h
              obtain ⟨h1, h2⟩ := hSt.split (n := n)
              refine ⟨rfl, (st.take n).reverse, st.drop n, ?_, by rw [List.reverse_reverse, List.take_append_drop], h1.rev, h2, by rw [(sx_sl_ok h2).2]; exact h8⟩
              have := Nat.le_of_ble_eq_true hle
              rw [List.length_reverse, List.length_take, hSt.len]
              omega
          -- what the others share
          have inst : (match S.drop n with
              | .inr (.inr (some (.inl a))) :: S1 => (match sx_look 12 w a with
                | some (.inl (cj, _)) => bif Nat.beq cj ci || Nat.beq kd 1 || Nat.beq kd 5 then some (M1, (sx_id a) :: (S.take n).reverse, S1) else none
                | _ => none)
              | .inr (.inr (some (.inr q))) :: S1 => bif Nat.beq kd 0 && Nat.beq (q % 2) 0 && Nat.ble 100 q && Nat.blt q 166 && (match vwCl[ci]? with
                | some v => decide (v.1 = "java/lang/String")
                | none => false) then some (M1, (sx_ext q) :: (S.take n).reverse, S1) else none
              | _ => none) = some (M', vs, S') → M1 = M' ∧ ∃ (b : Nat) (As rest : List Value), As.length = n ∧ st = As.reverse ++ .ref b :: rest ∧ sx_RS ρ z σ vs (.ref b :: As) ∧ sx_RS ρ z σ S' rest ∧ (rest.map fun v => v.category).sum ≤ 8 ∧ (kd ≠ 1 → kd ≠ 5 → ∀ v, vwCl[ci]? = some v → ∃ cell : Cell, H[b]? = some cell ∧ cell.vm.isStatics = false ∧ s.vm.findClass v.1 = some cell.cls) := by
            intro h
            obtain ⟨h1, h2⟩ := hSt.split (n := n)
            have hlen : n + 1 ≤ S.length → (st.take n).reverse.length = n := fun q => by rw [List.length_reverse, List.length_take, hSt.len]; omega
            split at h
            · rename_i a S1 hdr
              have hle : n + 1 ≤ S.length := by
                have := congrArg List.length hdr
                rw [List.length_drop, List.length_cons] at this
                omega
              split at h
              · rename_i cj fs hcj
                cases hg : (Nat.beq cj ci || Nat.beq kd 1 || Nat.beq kd 5) with
                | false => simp only [hg] at h; cases h
                | true =>
                  simp only [hg, cond_true] at h
                  cases h
                  rw [hdr] at h2
                  obtain ⟨o, rest, e1, ⟨b, hb9, rfl⟩, hrest⟩ := h2.ref
                  refine ⟨rfl, b, (st.take n).reverse, rest, hlen hle, ?_, ⟨sx_RVr (r := some (.inl a)) ⟨b, hb9, rfl⟩, h1.rev⟩, hrest, by rw [(sx_sl_ok hrest).2]; exact h8, ?_⟩
                  · rw [List.reverse_reverse]
                    conv => lhs; rw [← List.take_append_drop n st, e1]
                    rfl
                  · intro k1 k5 v hv
                    obtain ⟨q0, a', e', q1, q2, ⟨xs9, rfl, -⟩⟩ := hI.1 a _ hcj
                    cases hb9.symm.trans q2
                    have : cj = ci := by
                      rw [Bool.or_eq_true, Bool.or_eq_true] at hg
                      rcases hg with (hg | hg) | hg
                      · exact Nat.eq_of_beq_eq_true hg
                      · exact absurd (Nat.eq_of_beq_eq_true hg) k1
                      · exact absurd (Nat.eq_of_beq_eq_true hg) k5
                    subst this
                    exact va_recv hK hI.2.2.2.2.1 hv q1
              · cases h
            · rename_i q S1 hdr
              have hle : n + 1 ≤ S.length := by
                have := congrArg List.length hdr
                rw [List.length_drop, List.length_cons] at this
                omega
              cases hg : (Nat.beq kd 0 && Nat.beq (q % 2) 0 && Nat.ble 100 q && Nat.blt q 166 && (match vwCl[ci]? with | some v => decide (v.1 = "java/lang/String") | none => false)) with
              | false => simp only [hg] at h; cases h
              | true =>
                simp only [hg, cond_true] at h
                cases h
                rw [Bool.and_eq_true, Bool.and_eq_true, Bool.and_eq_true, Bool.and_eq_true] at hg
                obtain ⟨⟨⟨⟨-, g1⟩, g2⟩, g3⟩, g4⟩ := hg
                have g1 := Nat.eq_of_beq_eq_true g1
                have g2 := Nat.le_of_ble_eq_true g2
                have g3 : q < 166 := Nat.le_of_ble_eq_true g3
                obtain ⟨j, rfl⟩ : ∃ j, q = 100 + 2 * j := ⟨(q - 100) / 2, by omega⟩
                rw [hdr] at h2
                obtain ⟨o, rest, e1, ho, hrest⟩ := h2.ref
                have ho9 := ho
                have ho : o = some (z (100 + 2 * j)) := ho.1 (by omega) (by omega)
                subst ho
                refine ⟨rfl, z (100 + 2 * j), (st.take n).reverse, rest, hlen hle, ?_, ⟨sx_RVr (r := some (.inr (100 + 2 * j))) ho9, h1.rev⟩, hrest, by rw [(sx_sl_ok hrest).2]; exact h8, ?_⟩
                · rw [List.reverse_reverse]
                  conv => lhs; rw [← List.take_append_drop n st, e1]
                  rfl
                · intro k1 k5 v hv
                  rw [hv] at g4
                  rw [of_decide_eq_true g4]
                  exact vk_recv hZ.2.2.2.2.2.2.2.2.1 (i := j) (by omega) hS
            · cases h
          have hd3 : M1.1.cls ≠ "java/lang/invoke/MethodHandle" ∧ M1.1.cls ≠ "java/lang/invoke/VarHandle" ∧ (parseMethodDescriptor M1.1.desc).map (fun d => d.parameters.length) = some n := ⟨hy1, hy2, hnp⟩
          have nestw : ∀ {idx : Nat}, (match sk_nest[t1]? with | some (.methodLinkNest o i y _) => decide (o = M.1.cls ∧ i = idx ∧ y = M1.1) | _ => false) = true → ∃ host, va_Nw (.methodLinkNest M.1.cls idx M1.1 host) s := by
            intro idx h
            split at h
            · rename_i o i y host hq
              obtain ⟨rfl, rfl, rfl⟩ := of_decide_eq_true h
              exact ⟨host, hZ.2.2.2.2.2.2.2.2.2.2 _ (List.mem_of_getElem? hq)⟩
            · cases h
          split at crest
          · -- virtual
            rename_i idx
            rw [Bool.and_eq_true, Bool.and_eq_true, Bool.and_eq_true] at crest
            obtain ⟨⟨⟨w1, w2⟩, w3⟩, w4⟩ := crest
            obtain ⟨rfl, b, As, rest, a1, a2, a3, a4, a5, a6⟩ := inst h
            split at w4
            · rename_i v hv
              have hcl9 := of_decide_eq_true w4
              have hrecv := a6 (by decide) (by decide) v hv
              rw [hcl9] at hrecv
              exact go a4 (va_runV (b := b) (As := As) (rest := rest) hCF (hM wl _ H.size a3 hI.pi) ⟨callB_of n hts hG rfl rfl rfl hini (hts _ (sx_has_in htb w1)) hd3 hR, hts _ (sx_has_in htb w2), hts _ (sx_has_in htb w3)⟩ ⟨hEb _ _ _ _ _ _, hrecv, prei⟩ rfl a1 hl.1 a2 (lv_room a5) hd ⟨hc, hs⟩)
            · cases w4
          · -- constructor
            rename_i idx
            rw [Bool.and_eq_true, Bool.and_eq_true, Bool.and_eq_true] at crest
            obtain ⟨⟨⟨w1, w2⟩, w3⟩, w4⟩ := crest
            obtain ⟨rfl, b, As, rest, a1, a2, a3, a4, a5, a6⟩ := inst h
            have hret := of_decide_eq_true w4
            have hBk : CallB R s args M.1.cls idx M1.1 M1.2.1 M1.2.2.1 M1.2.2.2.1 (sx_ws M1 tb) ({ frames := fr - 1, cells := mc, slots := ms, locals := lo - (M1.2.2.1 + 19) }) mc ms n := callB_of n hts hG rfl rfl rfl hini (hts _ (sx_has_in htb w1)) hd3 hR
            rw [hret] at hBk
            exact go a4 (va_runI (b := b) (As := As) (rest := rest) hCF (hM wl _ H.size a3 hI.pi) ⟨hBk, of_decide_eq_true w3, hts _ (sx_has_in htb w2)⟩ ⟨hEb _ _ _ _ _ _, prei⟩ rfl a1 hl.1 a2 (lv_room a5) hd ⟨hc, hs⟩)
          · -- static
            rename_i idx
            rw [Bool.and_eq_true] at crest
            obtain ⟨w1, w2⟩ := crest
            obtain ⟨rfl, As, rest, a1, a2, a3, a4, a5⟩ := stat (rest := []) h
            exact go a4 (va_runS (As := As) (rest := rest) hCF (hM wl _ H.size a3 hI.pi) ⟨callB_of n hts hG rfl rfl rfl hini (hts _ (sx_has_in htb w1)) hd3 hR, hts _ (sx_has_in htb w2)⟩ ⟨hEb _ _ _ _ _ _, prei⟩ rfl a1 hl.1 a2 (lv_room a5) hd ⟨hc, hs⟩)
          · -- a nest mate's, virtual
            rename_i idx
            rw [Bool.and_eq_true, Bool.and_eq_true, Bool.and_eq_true] at crest
            obtain ⟨⟨⟨w2, w3⟩, w4⟩, w1⟩ := crest
            obtain ⟨rfl, b, As, rest, a1, a2, a3, a4, a5, a6⟩ := inst h
            obtain ⟨host, hnw⟩ := nestw w1
            split at w4
            · rename_i v hv
              have hcl9 := of_decide_eq_true w4
              have hrecv := a6 (by decide) (by decide) v hv
              rw [hcl9] at hrecv
              exact go a4 (va_runVN (b := b) (As := As) (rest := rest) hCF (hM wl _ H.size a3 hI.pi) ⟨va_cnB n hts hG rfl rfl rfl hnw hini hd3 hR, hts _ (sx_has_in htb w2), hts _ (sx_has_in htb w3)⟩ ⟨hEb _ _ _ _ _ _, hrecv, prei⟩ rfl a1 hl.1 a2 (lv_room a5) hd ⟨hc, hs⟩)
            · cases w4
          · -- a nest mate's, static
            rename_i idx
            rw [Bool.and_eq_true] at crest
            obtain ⟨w2, w1⟩ := crest
            obtain ⟨rfl, As, rest, a1, a2, a3, a4, a5⟩ := stat (rest := []) h
            obtain ⟨host, hnw⟩ := nestw w1
            exact go a4 (va_runSN (As := As) (rest := rest) hCF (hM wl _ H.size a3 hI.pi) ⟨va_cnB n hts hG rfl rfl rfl hnw hini hd3 hR, hts _ (sx_has_in htb w2), trivial⟩ ⟨hEb _ _ _ _ _ _, prei⟩ rfl a1 hl.1 a2 (lv_room a5) hd ⟨hc, hs⟩)
          · -- a nest mate's constructor
            rename_i idx
            rw [Bool.and_eq_true, Bool.and_eq_true, Bool.and_eq_true] at crest
            obtain ⟨⟨⟨w2, w3⟩, w4⟩, w1⟩ := crest
            obtain ⟨rfl, b, As, rest, a1, a2, a3, a4, a5, a6⟩ := inst h
            obtain ⟨host, hnw⟩ := nestw w1
            have hret := of_decide_eq_true w4
            have hBk : va_CN R s args M.1.cls idx M1.1 host M1.2.1 M1.2.2.1 M1.2.2.2.1 (sx_ws M1 tb) ({ frames := fr - 1, cells := mc, slots := ms, locals := lo - (M1.2.2.1 + 19) }) mc ms n := va_cnB n hts hG rfl rfl rfl hnw hini hd3 hR
            rw [hret] at hBk
            exact go a4 (va_runIN (b := b) (As := As) (rest := rest) hCF (hM wl _ H.size a3 hI.pi) ⟨hBk, of_decide_eq_true w3, hts _ (sx_has_in htb w2)⟩ ⟨hEb _ _ _ _ _ _, prei⟩ rfl a1 hl.1 a2 (lv_room a5) hd ⟨hc, hs⟩)
          · -- inherited
            rename_i idx
            obtain ⟨rfl, b, As, rest, a1, a2, a3, a4, a5, a6⟩ := inst h
            split at crest
            · rename_i o i xn v hw1 hv
              rw [Bool.and_eq_true, Bool.and_eq_true, Bool.and_eq_true, Bool.and_eq_true] at crest
              obtain ⟨⟨⟨⟨w1, w6⟩, w3⟩, w2⟩, wn⟩ := crest
              obtain ⟨rfl, rfl, hyx⟩ := of_decide_eq_true w1
              have hT : GoodIn tb (va_wsU M.1.cls i v.1 M1.1.cls xn M1.1 (sx_ws M1 tb)) := by
                intro w9 hw9
                unfold va_wsU at hw9
                rcases List.mem_append.mp hw9 with q | q
                · have : w9 ∈ tb := by
                    simp only [List.mem_cons, List.not_mem_nil, or_false] at q
                    rcases q with rfl | rfl | rfl | rfl | rfl
                    · exact sx_w_in htb hw1
                    · exact sx_has_in htb w6
                    · exact sx_has_in htb w3
                    · exact sx_has_in htb w2
                    · exact sx_has_in htb c4
                  exact ⟨this, hgood _ this⟩
                · exact hG w9 q
              exact go a4 (va_runU (b := b) (As := As) (rest := rest) hCF (hM wl _ H.size a3 hI.pi) (va_cwU n hts hT rfl rfl rfl hyx ⟨hy1, hy2, of_decide_eq_true wn⟩ hR) ⟨hEb _ _ _ _ _ _, a6 (by decide) (by decide) v hv, prei⟩ rfl a1 hl.1 a2 (lv_room a5) hd ⟨hc, hs⟩)
            · cases crest
          · -- the superclass's
            rename_i idx
            rw [Bool.and_eq_true, Bool.and_eq_true, Bool.and_eq_true, Bool.and_eq_true, Bool.and_eq_true] at crest
            obtain ⟨⟨⟨⟨⟨w1, w2⟩, w3⟩, w6⟩, w7⟩, w8⟩ := crest
            obtain ⟨rfl, b, As, rest, a1, a2, a3, a4, a5, a6⟩ := inst h
            have hT : GoodIn tb (va_wsSU M.1.cls idx M1.1 (sx_ws M1 tb)) := by
              intro w9 hw9
              unfold va_wsSU at hw9
              rcases List.mem_append.mp hw9 with q | q
              · have : w9 ∈ tb := by
                  simp only [List.mem_cons, List.not_mem_nil, or_false] at q
                  rcases q with rfl | rfl | rfl | rfl | rfl
                  · exact sx_has_in htb w1
                  · exact sx_has_in htb w6
                  · exact sx_has_in htb w3
                  · exact sx_has_in htb w2
                  · exact sx_has_in htb c4
                exact ⟨this, hgood _ this⟩
              · exact hG w9 q
            cases hv : vwCl[ci]? with
            | none => rw [hv] at w8; cases w8
            | some v =>
              exact go a4 (va_runSU (b := b) (As := As) (rest := rest) (hK.1 ci v hv).2 hCF (hM wl _ H.size a3 hI.pi) (va_cwSU n hts hT rfl rfl rfl ⟨of_decide_eq_true w7, hnp⟩ hR) ⟨hEb _ _ _ _ _ _, a6 (by decide) (by decide) v hv, prei⟩ rfl a1 hl.1 a2 (lv_room a5) hd ⟨hc, hs⟩)
          · cases crest
        · rename_i kd' tl' _ heq
          cases heq
          have := Nat.eq_of_beq_eq_true hcall
          subst this
          cases h
        · rename_i h2
          exact (h2 _ _ rfl).elim
    · cases h
end SXGE

theorem sx_SgF.cell {ns : Nat} {f : Nat → Int32} {fr lo : Nat} {z : Nat → Nat} {σ : Nat → Int} {r nx kk u : Nat} {L : List (Nat × sx_V)} {S S0 : List sx_V} {w : sx_W} {x : sx_R} (hrow : sx_row sm_L_law r = some x) (hp : sx_prep sx_p9 x (r, L, S0, w, nx, 0, 0) = some (sm_L_cell, [.inr (.inr (some (.inr 4))), .inl (.inl (.ofNat kk, []))], S)) (h1 : 1 ≤ fr) (h2 : 2 + 19 ≤ lo) (h6 : sx_sl S ≤ 8) (hns : ns < 2 ^ 31) (hkk : kk ≤ 100) (hσ : σ u = (l_cell ns f kk).toInt) :
    sx_SgF ns f wsL_law sm_L_law fr lo 0 0 z σ (r, L, S0, w, nx) (r + 1, L, .inl (.inl (0, [(u, 1)])) :: S, w, nx) := by
  intro p l e R s m args below meth c Q D cA Fr A ρ k n hX hfr hlo hk hn C K
  have hok := (sx_p9_PG 59 sm_L_law rfl).2.2 _ _ hrow
  obtain ⟨pc0, ins, len, aux, cst⟩ := x
  have hpc : sx_rpc sm_L_law r = pc0 := by unfold sx_rpc; rw [hrow]
  show sx_KM p l e R s m args below meth c Q D cA z σ Fr A sm_L_law.2.2.1 (sx_rpc sm_L_law r) k n ρ L S0 w nx
  rw [hpc]
  have hp : sx_prep sx_p9 (pc0, ins, len, aux, cst) (r, L, S0, w, nx, k, n) = some (sm_L_cell, [.inr (.inr (some (.inr 4))), .inl (.inl (.ofNat kk, []))], S) := hp
  refine sx_callE_ok (B := []) (E := xX (z 4) ns f) (xX_blind) (fun wl H locs hI hS U hU hW => xX_of hX hI hS hU hW) (rv := [.inl (.inl (0, [(u, 1)]))]) sx_p9_PG C sx_tb_ok sx_good hok hp h1 h2 hfr hlo h6 hk hn (fun wl xs sz hxs hPI => ?_) (fun ρ' hg => K ρ' hg)
  obtain ⟨o1, xs1, rfl, ho1, h2⟩ := hxs.ref
  obtain ⟨y1, xs2, rfl, hy1, h3⟩ := h2.int
  have := h3.nil
  subst this
  have hy1 : y1 = Int32.ofInt (sx_ev σ (sx_c (Int.ofNat kk))) := hy1
  rw [sx_ev_c] at hy1
  have e1 : y1 = nI kk := hy1.trans (Int32.ofInt_eq_ofNat (n := kk))
  subst e1
  have ho1 : o1 = some (z 4) := ho1.1 (by decide) (by decide)
  subst ho1
  refine (m_cell l (D := D) (cA := cA) (z := z) (wl := wl) (sz := sz) (b := z 4) (n := ns) (f := f) hns hkk).imp9 (fun a9 s9 o9 t9 hQ => ?_)
  obtain ⟨⟨v, u9, ho, hvv, hB9⟩, hF⟩ := hQ
  subst hvv
  refine ⟨⟨_, (ρ, wl), ho, ⟨sx_ge_rf ρ, ⟨sx_RVi ?_, trivial⟩, hPI⟩, hB9⟩, hF⟩
  show l_cell ns f kk = Int32.ofInt (sx_ev σ (0, [(u, 1)]))
  rw [sx_ev1, hσ, Int32.ofInt_toInt]
theorem sx_Sg.low {fr lo : Nat} {z : Nat → Nat} {σ : Nat → Int} {r nx n9 u : Nat} {e : sx_I} {L : List (Nat × sx_V)} {S S0 : List sx_V} {w : sx_W} {x : sx_R} (hrow : sx_row sm_L_law r = some x) (hp : sx_prep sx_p9 x (r, L, S0, w, nx, 0, 0) = some (sm_L_low, [.inl (.inl e), .inl (.inl (.ofNat n9, []))], S)) (h1 : 1 ≤ fr) (h2 : 2 + 19 ≤ lo) (h6 : sx_sl S ≤ 8) (hn9 : ¬ nI n9 = 0) (hσ : σ u = (l_low (Int32.ofInt (sx_ev σ e)) (nI n9)).toInt) :
    sx_Sg wsL_law sm_L_law fr lo 0 0 z σ (r, L, S0, w, nx) (r + 1, L, .inl (.inl (0, [(u, 1)])) :: S, w, nx) := by
  intro p l en R s m args below meth c Q D cA Fr A ρ k n hfr hlo hk hn C K
  have hok := (sx_p9_PG 59 sm_L_law rfl).2.2 _ _ hrow
  obtain ⟨pc0, ins, len, aux, cst⟩ := x
  have hpc : sx_rpc sm_L_law r = pc0 := by unfold sx_rpc; rw [hrow]
  show sx_KM p l en R s m args below meth c Q D cA z σ Fr A sm_L_law.2.2.1 (sx_rpc sm_L_law r) k n ρ L S0 w nx
  rw [hpc]
  have hp : sx_prep sx_p9 (pc0, ins, len, aux, cst) (r, L, S0, w, nx, k, n) = some (sm_L_low, [.inl (.inl e), .inl (.inl (.ofNat n9, []))], S) := hp
  refine sx_call_ok (B := []) (rv := [.inl (.inl (0, [(u, 1)]))]) sx_p9_PG C sx_tb_ok sx_good hok hp h1 h2 hfr hlo h6 hk hn (fun wl xs sz hxs hPI => ?_) (fun ρ' hg => K ρ' hg)
  obtain ⟨y0, xs1, rfl, hy0, h2⟩ := hxs.int
  obtain ⟨y1, xs2, rfl, hy1, h3⟩ := h2.int
  have := h3.nil
  subst this
  have hy1 : y1 = Int32.ofInt (sx_ev σ (sx_c (Int.ofNat n9))) := hy1
  rw [sx_ev_c] at hy1
  have e1 : y1 = nI n9 := hy1.trans (Int32.ofInt_eq_ofNat (n := n9))
  subst e1
  have hy0 : y0 = Int32.ofInt (sx_ev σ e) := hy0
  subst hy0
  refine (m_low l (D := D) (cA := cA) (z := z) (wl := wl) (sz := sz) (v := Int32.ofInt (sx_ev σ e)) hn9).imp9 (fun a9 s9 o9 t9 hQ => ?_)
  obtain ⟨⟨v, u9, ho, hvv, hB9⟩, hF⟩ := hQ
  subst hvv
  refine ⟨⟨_, (ρ, wl), ho, ⟨sx_ge_rf ρ, ⟨sx_RVi ?_, trivial⟩, hPI⟩, hB9⟩, hF⟩
  show l_low (Int32.ofInt (sx_ev σ e)) (nI n9) = Int32.ofInt (sx_ev σ (0, [(u, 1)]))
  rw [sx_ev1, hσ, Int32.ofInt_toInt]
