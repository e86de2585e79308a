section SXG
variable {p : Program} {l : Launch} {e : Env} {R : Room} {s : State} {m : MethodId} {args : Array Value} {below : List Frame} {meth : Method} {c : Code} {Q : State → Prop}
variable {D : va_G} {cA : Nat → ClassId} {z : Nat → Nat} {σ : Nat → Int} {B : sx_Bs} {Fr : va_W} {A : Nat → Prop} {tbs : List (List Cond)} {tb : List Cond} {own mname : String} {cc : ByteArray} {nL pc cells slots : Nat}
variable {ρ : Nat → Option Nat} {L L' : List (Nat × sx_V)} {S S' : List sx_V} {w w' : sx_W} {nx nx' dc ds : Nat} {P : Nat → Option sx_M}
theorem sx_okinv {M : sx_M} {r pc0 len : Nat} {ins : Instr} {aux : List Nat} {cst : Int} (hi : sx_isinv ins = true) (hok : sx_okR P tbs M r (pc0, ins, len, aux, cst) = true) : decode M.2.1 pc0 = .ok (ins, 3) ∧ sx_rpc M (r + 1) = pc0 + 3 ∧ sx_okcall P tbs M.1.cls ins aux = true := by
  have two : ∀ {ins : Instr}, sx_ilen ins = 3 → (decide (decode M.2.1 pc0 = .ok (ins, len)) && (sx_fall M r (pc0, ins, len, aux, cst) && sx_okcall P tbs M.1.cls ins aux)) = true → decode M.2.1 pc0 = .ok (ins, 3) ∧ sx_rpc M (r + 1) = pc0 + 3 ∧ sx_okcall P tbs M.1.cls ins aux = true := by
    intro ins hl h
    rw [Bool.and_eq_true, Bool.and_eq_true] at h
    obtain ⟨a, b⟩ := sx_fallD (show (decide (decode M.2.1 pc0 = .ok (ins, len)) && sx_fall M r (pc0, ins, len, aux, cst)) = true by rw [Bool.and_eq_true]; exact ⟨h.1, h.2.1⟩)
    rw [hl] at a b
    exact ⟨a, b, h.2.2⟩
  unfold sx_isinv at hi
  split at hi
  · exact two rfl hok
  · exact two rfl hok
  · exact two rfl hok
  · cases hi
/-- the contract of the method that is called, of whatever receives it -/
theorem sx_call_ok (hPG : sx_PG P tbs) {M M' : sx_M} (C : sx_CX p s m args meth c D cA z σ B A tb M.1.cls M.1.name M.2.1 M.2.2.1) (htb : sx_tbOK tbs tb) (hgood : ∀ w ∈ tb, (w.onTables && w.keeps) = true ∨ ∃ ty, w = .arrayClass ty) {r pc0 len : Nat} {ins : Instr} {aux : List Nat} {cst : Int} (hok : sx_okR P tbs M r (pc0, ins, len, aux, cst) = true)
    {k0 n0 : Nat} {vs S' rv : List sx_V} {fr lo mc ms : Nat} (h : sx_prep P (pc0, ins, len, aux, cst) (r, L, S, w, nx, k0, n0) = some (M', vs, S'))
    (hf1 : 1 ≤ fr) (hf2 : M'.2.2.1 + 19 ≤ lo) (hfr : fr ≤ R.frames) (hlo : lo ≤ R.locals) (h8 : sx_sl S' ≤ 8) (hc : k0 + mc ≤ R.cells) (hs : n0 + ms ≤ R.slots)
    (hM : ∀ (wl : va_W) (xs : List Value) (sz : Nat), sx_RS ρ z σ vs xs → sx_PI cA ρ z σ Fr w nx wl → Met l M'.1 (sx_ws M' tb) ({ frames := fr - 1, cells := mc, slots := ms, locals := lo - (M'.2.2.1 + 19) }) (va_Pc xs (sx_Pre D cA z wl sz)) (sx_Q (sx_post cA ρ z σ Fr w' nx' rv) (sx_Bst D (va_A wl sz)) (va_A wl sz)) mc ms (va_A wl sz))
    (K : ∀ ρ', sx_ge ρ ρ' → sx_KM p l e R s m args below meth c Q D cA z σ Fr A M.2.2.1 (sx_rpc M (r + 1)) (k0 + mc) (n0 + ms) ρ' L (rv ++ S') w' nx') : sx_KM p l e R s m args below meth c Q D cA z σ Fr A M.2.2.1 pc0 k0 n0 ρ L S w nx := by
  intro wl H locs hI hS ls lv st hl hL hSt
  obtain ⟨hx, hb, hml, hts, hown, hK, hZ, hB, hA, hn⟩ := C
  unfold sx_prep at h
  cases hinv : sx_isinv ins with
  | false => simp only [hinv, Bool.not_false, cond_true] at h; cases h
  | true =>
    simp only [hinv, Bool.not_true, cond_false] at h
    obtain ⟨hd, hr3, hcall⟩ := sx_okinv hinv hok
    rw [hr3] at K
    have hFc : ∀ q, va_A wl H.size q → A q := by
      intro q hq
      rcases hq with ⟨k, e9, hk⟩ | hq
      · exact hI.2.2.2.2.2.2 k (q, e9) hk
      · exact hA q (Nat.le_trans hS.1 hq)
    have hCF : CallFix p m c M.2.1 M.2.2.1 s args tb M.1.cls := ⟨hx, hb, hml, hown, hts⟩
    have prei : ∀ {xs : List Value}, ∀ U : State, U.heap = H → s.WarmedH U.vm → va_Pc xs (sx_Pre D cA z wl H.size) xs.toArray U := fun {xs} U hU hW =>
      ⟨rfl, by rw [hU], by rw [hU]; exact hI.2.2.2.2.1, va_K.moved hW.alike hK, hI.2.2.2.2.2.weaken (fun _ _ _ _ => trivial), by rw [hU]; exact SR.moved hW (SR.narrow (SR.kept hZ hS.2.1) hFc)⟩
    have hR : (fr - 1) + 1 ≤ R.frames ∧ 8 + (M'.2.2.1 + 11) + (lo - (M'.2.2.1 + 19)) ≤ R.locals := ⟨by omega, by omega⟩
    have go : ∀ {rest : List Value} {a : Array Value}, sx_RS ρ z σ S' rest → va_Run p l e R s m args below meth c H locs k0 n0 mc ms (F0 m pc0 ls st) rest (sx_Q (sx_post cA ρ z σ Fr w' nx' rv) (sx_Bst D (va_A wl H.size)) (va_A wl H.size) a) (va_A wl H.size) → W p l e R s m args below meth c H locs k0 n0 Q (F0 m pc0 ls st) := fun {rest a} hrest run =>
      sx_callW run hS (fun q _ h => hFc q h) hFc (fun v u t H1 locs1 ht hvm hp hb9 hS1 =>
        K u.1 hp.1 u.2 H1 locs1 (hp.2.2.in (by rw [← ht]; exact hb9.1) (hb9.2.weaken (fun k q _ h => hFc q.1 h))) hS1 ls lv (v.toList ++ rest) hl (hL.mono hp.1) (hp.2.1.app (hrest.mono hp.1)))
    split at h
    · rename_i kd mj n ci tl
      split at h
      · cases h
      · rename_i M1 hM1
        unfold sx_okcall at hcall
        split at hcall
        · rename_i kd' mj' n' ci' t1 t2 t3 t4 t5 t6 heq
          cases heq
          rw [hM1] at hcall
          simp only at hcall
          rw [Bool.and_eq_true, Bool.and_eq_true, Bool.and_eq_true, Bool.and_eq_true, Bool.and_eq_true] at hcall
          obtain ⟨⟨⟨⟨⟨c4, c5⟩, cnp⟩, cpl⟩, cym⟩, crest⟩ := hcall
          have hini := hts _ (sx_has_in htb c4)
          have mcode : Cond.code M1.1 M1.2.1 M1.2.2.1 M1.2.2.2.1 ∈ tb := by
            obtain ⟨t9, ht9⟩ := (hPG mj M1 hM1).2.1 (of_decide_eq_true c5)
            exact sx_w_in htb ht9
          have hnp := of_decide_eq_true cnp
          have cym : (decide (M1.1.cls ≠ "java/lang/invoke/MethodHandle") && decide (M1.1.cls ≠ "java/lang/invoke/VarHandle")) = true := cym
          rw [Bool.and_eq_true] at cym
          have hy1 := of_decide_eq_true cym.1
          have hy2 := of_decide_eq_true cym.2
          have hG : GoodIn tb (sx_ws M1 tb) := fun w9 hw9 => by
            rcases List.mem_cons.mp hw9 with rfl | hw9
            · exact ⟨mcode, hgood _ mcode⟩
            · exact ⟨hw9, hgood _ hw9⟩
          -- what static calls share
          have stat : ∀ {rest : List Value}, (bif Nat.ble n S.length then some (M1, (S.take n).reverse, S.drop n) else none) = some (M', vs, S') → M1 = M' ∧ ∃ As rest, As.length = n ∧ st = As.reverse ++ rest ∧ sx_RS ρ z σ vs As ∧ sx_RS ρ z σ S' rest ∧ (rest.map fun v => v.category).sum ≤ 8 := by
            intro _ h
            cases hle : Nat.ble n S.length with
            | false => rw [hle] at h; cases h
            | true =>
              rw [hle] at h
              cases h
              obtain ⟨h1, h2⟩ := hSt.split (n := n)
              refine ⟨rfl, (st.take n).reverse, st.drop n, ?_, by rw [List.reverse_reverse, List.take_append_drop], h1.rev, h2, by rw [(sx_sl_ok h2).2]; exact h8⟩
              have := Nat.le_of_ble_eq_true hle
              rw [List.length_reverse, List.length_take, hSt.len]
              omega
          -- what the others share
          have inst : (match S.drop n with
              | .inr (.inr (some (.inl a))) :: S1 => (match sx_look 12 w a with
                | some (.inl (cj, _)) => bif Nat.beq cj ci || Nat.beq kd 1 || Nat.beq kd 5 then some (M1, (sx_id a) :: (S.take n).reverse, S1) else none
                | _ => none)
              | .inr (.inr (some (.inr q))) :: S1 => bif Nat.beq kd 0 && Nat.beq (q % 2) 0 && Nat.ble 100 q && Nat.blt q 166 && (match vwCl[ci]? with
                | some v => decide (v.1 = "java/lang/String")
                | none => false) then some (M1, (sx_ext q) :: (S.take n).reverse, S1) else none
              | _ => none) = some (M', vs, S') → M1 = M' ∧ ∃ (b : Nat) (As rest : List Value), As.length = n ∧ st = As.reverse ++ .ref b :: rest ∧ sx_RS ρ z σ vs (.ref b :: As) ∧ sx_RS ρ z σ S' rest ∧ (rest.map fun v => v.category).sum ≤ 8 ∧ (kd ≠ 1 → kd ≠ 5 → ∀ v, vwCl[ci]? = some v → ∃ cell : Cell, H[b]? = some cell ∧ cell.vm.isStatics = false ∧ s.vm.findClass v.1 = some cell.cls) := by
            intro h
            obtain ⟨h1, h2⟩ := hSt.split (n := n)
            have hlen : n + 1 ≤ S.length → (st.take n).reverse.length = n := fun q => by rw [List.length_reverse, List.length_take, hSt.len]; omega
            split at h
            · rename_i a S1 hdr
              have hle : n + 1 ≤ S.length := by
                have := congrArg List.length hdr
                rw [List.length_drop, List.length_cons] at this
                omega
              split at h
              · rename_i cj fs hcj
                cases hg : (Nat.beq cj ci || Nat.beq kd 1 || Nat.beq kd 5) with
                | false => simp only [hg] at h; cases h
                | true =>
                  simp only [hg, cond_true] at h
                  cases h
                  rw [hdr] at h2
                  obtain ⟨o, rest, e1, ⟨b, hb9, rfl⟩, hrest⟩ := h2.ref
                  refine ⟨rfl, b, (st.take n).reverse, rest, hlen hle, ?_, ⟨sx_RVr (r := some (.inl a)) ⟨b, hb9, rfl⟩, h1.rev⟩, hrest, by rw [(sx_sl_ok hrest).2]; exact h8, ?_⟩
                  · rw [List.reverse_reverse]
                    conv => lhs; rw [← List.take_append_drop n st, e1]
                    rfl
                  · intro k1 k5 v hv
                    obtain ⟨q0, a', e', q1, q2, ⟨xs9, rfl, -⟩⟩ := hI.1 a _ hcj
                    cases hb9.symm.trans q2
                    have : cj = ci := by
                      rw [Bool.or_eq_true, Bool.or_eq_true] at hg
                      rcases hg with (hg | hg) | hg
                      · exact Nat.eq_of_beq_eq_true hg
                      · exact absurd (Nat.eq_of_beq_eq_true hg) k1
                      · exact absurd (Nat.eq_of_beq_eq_true hg) k5
                    subst this
                    exact va_recv hK hI.2.2.2.2.1 hv q1
              · cases h
            · rename_i q S1 hdr
              have hle : n + 1 ≤ S.length := by
                have := congrArg List.length hdr
                rw [List.length_drop, List.length_cons] at this
                omega
              cases hg : (Nat.beq kd 0 && Nat.beq (q % 2) 0 && Nat.ble 100 q && Nat.blt q 166 && (match vwCl[ci]? with | some v => decide (v.1 = "java/lang/String") | none => false)) with
              | false => simp only [hg] at h; cases h
              | true =>
                simp only [hg, cond_true] at h
                cases h
                rw [Bool.and_eq_true, Bool.and_eq_true, Bool.and_eq_true, Bool.and_eq_true] at hg
                obtain ⟨⟨⟨⟨-, g1⟩, g2⟩, g3⟩, g4⟩ := hg
                have g1 := Nat.eq_of_beq_eq_true g1
                have g2 := Nat.le_of_ble_eq_true g2
                have g3 : q < 166 := Nat.le_of_ble_eq_true g3
                obtain ⟨j, rfl⟩ : ∃ j, q = 100 + 2 * j := ⟨(q - 100) / 2, by omega⟩
                rw [hdr] at h2
                obtain ⟨o, rest, e1, ho, hrest⟩ := h2.ref
                have ho9 := ho
                have ho : o = some (z (100 + 2 * j)) := ho.1 (by omega) (by omega)
                subst ho
                refine ⟨rfl, z (100 + 2 * j), (st.take n).reverse, rest, hlen hle, ?_, ⟨sx_RVr (r := some (.inr (100 + 2 * j))) ho9, h1.rev⟩, hrest, by rw [(sx_sl_ok hrest).2]; exact h8, ?_⟩
                · rw [List.reverse_reverse]
                  conv => lhs; rw [← List.take_append_drop n st, e1]
                  rfl
                · intro k1 k5 v hv
                  rw [hv] at g4
                  rw [of_decide_eq_true g4]
                  exact vk_recv hZ.2.2.2.2.2.2.2.2.1 (i := j) (by omega) hS
            · cases h
          have hd3 : M1.1.cls ≠ "java/lang/invoke/MethodHandle" ∧ M1.1.cls ≠ "java/lang/invoke/VarHandle" ∧ (parseMethodDescriptor M1.1.desc).map (fun d => d.parameters.length) = some n := ⟨hy1, hy2, hnp⟩
          have nestw : ∀ {idx : Nat}, (match sk_nest[t1]? with | some (.methodLinkNest o i y _) => decide (o = M.1.cls ∧ i = idx ∧ y = M1.1) | _ => false) = true → ∃ host, va_Nw (.methodLinkNest M.1.cls idx M1.1 host) s := by
            intro idx h
            split at h
            · rename_i o i y host hq
              obtain ⟨rfl, rfl, rfl⟩ := of_decide_eq_true h
              exact ⟨host, hZ.2.2.2.2.2.2.2.2.2.2 _ (List.mem_of_getElem? hq)⟩
            · cases h
          split at crest
          · -- virtual
            rename_i idx
            rw [Bool.and_eq_true, Bool.and_eq_true, Bool.and_eq_true] at crest
            obtain ⟨⟨⟨w1, w2⟩, w3⟩, w4⟩ := crest
            obtain ⟨rfl, b, As, rest, a1, a2, a3, a4, a5, a6⟩ := inst h
            split at w4
            · rename_i v hv
              have hcl9 := of_decide_eq_true w4
              have hrecv := a6 (by decide) (by decide) v hv
              rw [hcl9] at hrecv
              exact go a4 (va_runV (b := b) (As := As) (rest := rest) hCF (hM wl _ H.size a3 hI.pi) ⟨callB_of n hts hG rfl rfl rfl hini (hts _ (sx_has_in htb w1)) hd3 hR, hts _ (sx_has_in htb w2), hts _ (sx_has_in htb w3)⟩ ⟨sx_blind, hrecv, prei⟩ rfl a1 hl.1 a2 (lv_room a5) hd ⟨hc, hs⟩)
            · cases w4
          · -- constructor
            rename_i idx
            rw [Bool.and_eq_true, Bool.and_eq_true, Bool.and_eq_true] at crest
            obtain ⟨⟨⟨w1, w2⟩, w3⟩, w4⟩ := crest
            obtain ⟨rfl, b, As, rest, a1, a2, a3, a4, a5, a6⟩ := inst h
            have hret := of_decide_eq_true w4
            have hBk : CallB R s args M.1.cls idx M1.1 M1.2.1 M1.2.2.1 M1.2.2.2.1 (sx_ws M1 tb) ({ frames := fr - 1, cells := mc, slots := ms, locals := lo - (M1.2.2.1 + 19) }) mc ms n := callB_of n hts hG rfl rfl rfl hini (hts _ (sx_has_in htb w1)) hd3 hR
            rw [hret] at hBk
            exact go a4 (va_runI (b := b) (As := As) (rest := rest) hCF (hM wl _ H.size a3 hI.pi) ⟨hBk, of_decide_eq_true w3, hts _ (sx_has_in htb w2)⟩ ⟨sx_blind, prei⟩ rfl a1 hl.1 a2 (lv_room a5) hd ⟨hc, hs⟩)
          · -- static
            rename_i idx
            rw [Bool.and_eq_true] at crest
            obtain ⟨w1, w2⟩ := crest
            obtain ⟨rfl, As, rest, a1, a2, a3, a4, a5⟩ := stat (rest := []) h
            exact go a4 (va_runS (As := As) (rest := rest) hCF (hM wl _ H.size a3 hI.pi) ⟨callB_of n hts hG rfl rfl rfl hini (hts _ (sx_has_in htb w1)) hd3 hR, hts _ (sx_has_in htb w2)⟩ ⟨sx_blind, prei⟩ rfl a1 hl.1 a2 (lv_room a5) hd ⟨hc, hs⟩)
          · -- a nest mate's, virtual
            rename_i idx
            rw [Bool.and_eq_true, Bool.and_eq_true, Bool.and_eq_true] at crest
            obtain ⟨⟨⟨w2, w3⟩, w4⟩, w1⟩ := crest
            obtain ⟨rfl, b, As, rest, a1, a2, a3, a4, a5, a6⟩ := inst h
            obtain ⟨host, hnw⟩ := nestw w1
            split at w4
            · rename_i v hv
              have hcl9 := of_decide_eq_true w4
              have hrecv := a6 (by decide) (by decide) v hv
              rw [hcl9] at hrecv
              exact go a4 (va_runVN (b := b) (As := As) (rest := rest) hCF (hM wl _ H.size a3 hI.pi) ⟨va_cnB n hts hG rfl rfl rfl hnw hini hd3 hR, hts _ (sx_has_in htb w2), hts _ (sx_has_in htb w3)⟩ ⟨sx_blind, hrecv, prei⟩ rfl a1 hl.1 a2 (lv_room a5) hd ⟨hc, hs⟩)
            · cases w4
          · -- a nest mate's, static
            rename_i idx
            rw [Bool.and_eq_true] at crest
            obtain ⟨w2, w1⟩ := crest
            obtain ⟨rfl, As, rest, a1, a2, a3, a4, a5⟩ := stat (rest := []) h
            obtain ⟨host, hnw⟩ := nestw w1
            exact go a4 (va_runSN (As := As) (rest := rest) hCF (hM wl _ H.size a3 hI.pi) ⟨va_cnB n hts hG rfl rfl rfl hnw hini hd3 hR, hts _ (sx_has_in htb w2), trivial⟩ ⟨sx_blind, prei⟩ rfl a1 hl.1 a2 (lv_room a5) hd ⟨hc, hs⟩)
          · -- a nest mate's constructor
            rename_i idx
            rw [Bool.and_eq_true, Bool.and_eq_true, Bool.and_eq_true] at crest
            obtain ⟨⟨⟨w2, w3⟩, w4⟩, w1⟩ := crest
            obtain ⟨rfl, b, As, rest, a1, a2, a3, a4, a5, a6⟩ := inst h
            obtain ⟨host, hnw⟩ := nestw w1
            have hret := of_decide_eq_true w4
            have hBk : va_CN R s args M.1.cls idx M1.1 host M1.2.1 M1.2.2.1 M1.2.2.2.1 (sx_ws M1 tb) ({ frames := fr - 1, cells := mc, slots := ms, locals := lo - (M1.2.2.1 + 19) }) mc ms n := va_cnB n hts hG rfl rfl rfl hnw hini hd3 hR
            rw [hret] at hBk
            exact go a4 (va_runIN (b := b) (As := As) (rest := rest) hCF (hM wl _ H.size a3 hI.pi) ⟨hBk, of_decide_eq_true w3, hts _ (sx_has_in htb w2)⟩ ⟨sx_blind, prei⟩ rfl a1 hl.1 a2 (lv_room a5) hd ⟨hc, hs⟩)
          · -- inherited
            rename_i idx
            obtain ⟨rfl, b, As, rest, a1, a2, a3, a4, a5, a6⟩ := inst h
            split at crest
            · rename_i o i xn v hw1 hv
              rw [Bool.and_eq_true, Bool.and_eq_true, Bool.and_eq_true, Bool.and_eq_true] at crest
              obtain ⟨⟨⟨⟨w1, w6⟩, w3⟩, w2⟩, wn⟩ := crest
              obtain ⟨rfl, rfl, hyx⟩ := of_decide_eq_true w1
              have hT : GoodIn tb (va_wsU M.1.cls i v.1 M1.1.cls xn M1.1 (sx_ws M1 tb)) := by
                intro w9 hw9
                unfold va_wsU at hw9
                rcases List.mem_append.mp hw9 with q | q
                · have : w9 ∈ tb := by
                    simp only [List.mem_cons, List.not_mem_nil, or_false] at q
                    rcases q with rfl | rfl | rfl | rfl | rfl
                    · exact sx_w_in htb hw1
                    · exact sx_has_in htb w6
                    · exact sx_has_in htb w3
                    · exact sx_has_in htb w2
                    · exact sx_has_in htb c4
                  exact ⟨this, hgood _ this⟩
                · exact hG w9 q
              exact go a4 (va_runU (b := b) (As := As) (rest := rest) hCF (hM wl _ H.size a3 hI.pi) (va_cwU n hts hT rfl rfl rfl hyx ⟨hy1, hy2, of_decide_eq_true wn⟩ hR) ⟨sx_blind, a6 (by decide) (by decide) v hv, prei⟩ rfl a1 hl.1 a2 (lv_room a5) hd ⟨hc, hs⟩)
            · cases crest
          · -- the superclass's
            rename_i idx
            rw [Bool.and_eq_true, Bool.and_eq_true, Bool.and_eq_true, Bool.and_eq_true, Bool.and_eq_true] at crest
            obtain ⟨⟨⟨⟨⟨w1, w2⟩, w3⟩, w6⟩, w7⟩, w8⟩ := crest
            obtain ⟨rfl, b, As, rest, a1, a2, a3, a4, a5, a6⟩ := inst h
            have hT : GoodIn tb (va_wsSU M.1.cls idx M1.1 (sx_ws M1 tb)) := by
              intro w9 hw9
              unfold va_wsSU at hw9
              rcases List.mem_append.mp hw9 with q | q
              · have : w9 ∈ tb := by
                  simp only [List.mem_cons, List.not_mem_nil, or_false] at q
                  rcases q with rfl | rfl | rfl | rfl | rfl
                  · exact sx_has_in htb w1
                  · exact sx_has_in htb w6
                  · exact sx_has_in htb w3
                  · exact sx_has_in htb w2
                  · exact sx_has_in htb c4
                exact ⟨this, hgood _ this⟩
              · exact hG w9 q
            cases hv : vwCl[ci]? with
            | none => rw [hv] at w8; cases w8
            | some v =>
              exact go a4 (va_runSU (b := b) (As := As) (rest := rest) (hK.1 ci v hv).2 hCF (hM wl _ H.size a3 hI.pi) (va_cwSU n hts hT rfl rfl rfl ⟨of_decide_eq_true w7, hnp⟩ hR) ⟨sx_blind, a6 (by decide) (by decide) v hv, prei⟩ rfl a1 hl.1 a2 (lv_room a5) hd ⟨hc, hs⟩)
          · cases crest
        · rename_i kd' tl' _ heq
          cases heq
          have := Nat.eq_of_beq_eq_true hcall
          subst this
          cases h
        · rename_i h2
          exact (h2 _ _ rfl).elim
    · cases h
end SXG

section SXH
variable {P : Nat → Option sx_M} {tbs : List (List Cond)} {tb : List Cond} {B : sx_Bs} {pr : sx_Pr}
theorem sx_prep_M {M' : sx_M} {pc0 len r nx k0 n0 : Nat} {ins : Instr} {aux : List Nat} {cst : Int} {L : List (Nat × sx_V)} {S vs S' : List sx_V} {w : sx_W} (h : sx_prep P (pc0, ins, len, aux, cst) (r, L, S, w, nx, k0, n0) = some (M', vs, S')) : ∃ kd mj n ci tl, aux = kd :: mj :: n :: ci :: tl ∧ P mj = some M' ∧ kd ≠ 9 ∧ sx_isinv ins = true := by
  unfold sx_prep at h
  cases hinv : sx_isinv ins with
  | false => simp only [hinv, Bool.not_false, cond_true] at h; cases h
  | true =>
    simp only [hinv, Bool.not_true, cond_false] at h
    split at h
    · rename_i kd mj n ci tl
      split at h
      · cases h
      · rename_i M1 hM1
        have hMM : M1 = M' ∧ kd ≠ 9 := by
          split at h
          · cases hb : Nat.ble n S.length with
            | false => rw [hb] at h; cases h
            | true => rw [hb] at h; cases h; exact ⟨rfl, by decide⟩
          · cases hb : Nat.ble n S.length with
            | false => rw [hb] at h; cases h
            | true => rw [hb] at h; cases h; exact ⟨rfl, by decide⟩
          · cases h
          · rename_i h9
            split at h
            · split at h
              · rename_i cj fs hcj
                cases hg : (Nat.beq cj ci || Nat.beq kd 1 || Nat.beq kd 5) with
                | false => simp only [hg] at h; cases h
                | true => simp only [hg, cond_true] at h; cases h; exact ⟨rfl, h9⟩
              · cases h
            · have cnd : ∀ {b : Bool} {o : Option (sx_M × List sx_V × List sx_V)}, (bif b then o else none) = some (M', vs, S') → o = some (M', vs, S') := fun {b o} h => by cases b with
                | true => exact h
                | false => cases h
              have h := cnd h
              cases h
              exact ⟨rfl, h9⟩
            · cases h
        obtain ⟨rfl, h9⟩ := hMM
        exact ⟨kd, mj, n, ci, tl, rfl, hM1, h9, rfl⟩
    · cases h
theorem sx_step1_mono {mx : Nat} {x : sx_R} {c0 c1 : sx_S} (h : sx_step1 B mx x c0 = some c1) : c0.2.2.2.2.2.1 ≤ c1.2.2.2.2.2.1 ∧ c0.2.2.2.2.2.2 ≤ c1.2.2.2.2.2.2 := by
  obtain ⟨r, L, S, w, nx, k, n⟩ := c0
  unfold sx_step1 at h
  simp only at h
  split at h
  · cases h; exact ⟨Nat.le_refl _, Nat.le_refl _⟩
  · split at h
    · cases h; exact ⟨Nat.le_refl _, Nat.le_refl _⟩
    · split at h
      · cases h; exact ⟨Nat.le_refl _, Nat.le_refl _⟩
      · split at h
        · cases h; exact ⟨Nat.le_add_right _ _, Nat.le_add_right _ _⟩
        · cases h
/-- the whole: a run in symbols says what the machine does -/
theorem sx_sound (hPG : sx_PG P tbs) (htb : sx_tbOK tbs tb) (hgood : ∀ w ∈ tb, (w.onTables && w.keeps) = true ∨ ∃ ty, w = .arrayClass ty) (hcl : ∀ ci, sx_clOK tb ci) (hpr : sx_PR P tbs tb B pr) : ∀ n, sx_SND P tb B pr n
  | 0 => fun fr lo M stop fst c0 c1 hM h => by cases h
  | n + 1 => by
    intro fr lo M stop fst c0 c1 hM h
    have IH := sx_sound hPG htb hgood hcl hpr n
    have here : c0 = c1 → (c0.2.2.2.2.2.1 ≤ c1.2.2.2.2.2.1 ∧ c0.2.2.2.2.2.2 ≤ c1.2.2.2.2.2.2) ∧
        ∀ (p : Program) (l : Launch) (e : Env) (R : Room) (s : State) (m : MethodId) (args : Array Value) (below : List Frame) (meth : Method) (c : Code) (Q : State → Prop) (D : va_G) (cA : Nat → ClassId) (z : Nat → Nat) (σ : Nat → Int) (Fr : va_W) (A : Nat → Prop) (ρ : Nat → Option Nat),
          fr ≤ R.frames → lo ≤ R.locals → c1.2.2.2.2.2.1 ≤ R.cells → c1.2.2.2.2.2.2 ≤ R.slots → sx_CX p s m args meth c D cA z σ B A tb M.1.cls M.1.name M.2.1 M.2.2.1 →
          (∀ ρ', sx_ge ρ ρ' → sx_KM p l e R s m args below meth c Q D cA z σ Fr A M.2.2.1 (sx_rpc M c1.1) c1.2.2.2.2.2.1 c1.2.2.2.2.2.2 ρ' c1.2.1 c1.2.2.1 c1.2.2.2.1 c1.2.2.2.2.1) →
          sx_KM p l e R s m args below meth c Q D cA z σ Fr A M.2.2.1 (sx_rpc M c0.1) c0.2.2.2.2.2.1 c0.2.2.2.2.2.2 ρ c0.2.1 c0.2.2.1 c0.2.2.2.1 c0.2.2.2.2.1 := fun q => by
      subst q
      exact ⟨⟨Nat.le_refl _, Nat.le_refl _⟩, fun p l e R s m args below meth c Q D cA z σ Fr A ρ _ _ _ _ _ K => K ρ (sx_ge_rf ρ)⟩
    unfold sx_ex at h
    cases hst : (!fst && Nat.beq c0.1 stop) with
    | true =>
      simp only [hst, cond_true] at h
      exact here (Option.some.inj h)
    | false =>
      simp only [hst, cond_false] at h
      split at h
      · cases h
      · rename_i x hrow
        obtain ⟨mi, hmi⟩ := hM
        have hok := (hPG mi M hmi).2.2 _ _ hrow
        have hM : ∃ mi, P mi = some M := ⟨mi, hmi⟩
        cases hret : sx_isret x.2.1 with
        | true =>
          simp only [hret, cond_true] at h
          exact here (Option.some.inj h)
        | false =>
          simp only [hret, cond_false] at h
          split at h
          · rename_i c' hc'
            obtain ⟨⟨m1, m2⟩, rest⟩ := IH fr lo M stop false c' c1 hM h
            obtain ⟨g1, g2⟩ := sx_step1_mono hc'
            refine ⟨⟨Nat.le_trans g1 m1, Nat.le_trans g2 m2⟩, fun p l e R s m args below meth c Q D cA z σ Fr A ρ f1 f2 f3 f4 C K => ?_⟩
            exact sx_step1_ok C htb hcl hrow hok hc' (Nat.le_trans m1 f3) (Nat.le_trans m2 f4) (fun ρ' hg => rest p l e R s m args below meth c Q D cA z σ Fr A ρ' f1 f2 f3 f4 C (fun ρ2 hg2 => K ρ2 (hg.tr hg2)))
          · split at h
            · split at h
              · rename_i c' hc'
                obtain ⟨⟨m1, m2⟩, rest⟩ := IH fr lo M stop false c' c1 hM h
                obtain ⟨⟨g1, g2⟩, step⟩ := hpr fr lo M x c0 c' hc' hM hrow
                refine ⟨⟨Nat.le_trans g1 m1, Nat.le_trans g2 m2⟩, fun p l e R s m args below meth c Q D cA z σ Fr A ρ f1 f2 f3 f4 C K => ?_⟩
                exact step p l e R s m args below meth c Q D cA z σ Fr A ρ f1 f2 (Nat.le_trans m1 f3) (Nat.le_trans m2 f4) C (fun ρ' hg => rest p l e R s m args below meth c Q D cA z σ Fr A ρ' f1 f2 f3 f4 C (fun ρ2 hg2 => K ρ2 (hg.tr hg2)))
              · cases h
            · rename_i q hq
              cases hgd : (Nat.ble 1 fr && Nat.ble (q.1.2.2.1 + 19) lo && Nat.ble (sx_sl q.2.1) q.1.2.2.1 && Nat.ble (sx_sl q.2.2) 8) with
              | false => simp only [hgd, cond_false] at h; cases h
              | true =>
                simp only [hgd, cond_true] at h
                rw [Bool.and_eq_true, Bool.and_eq_true, Bool.and_eq_true] at hgd
                obtain ⟨⟨⟨g1, g2⟩, g3⟩, g4⟩ := hgd
                have g1 := Nat.le_of_ble_eq_true g1
                have g2 := Nat.le_of_ble_eq_true g2
                have g3 := Nat.le_of_ble_eq_true g3
                have g4 := Nat.le_of_ble_eq_true g4
                split at h
                · cases h
                · rename_i c2 hc2
                  split at h
                  · cases h
                  · rename_i rv hrv
                    obtain ⟨⟨m1, m2⟩, rest⟩ := IH fr lo M stop false _ c1 hM h
                    obtain ⟨pc0, ins, len, aux, cst⟩ := x
                    obtain ⟨r, L, S, w, nx, k0, n0⟩ := c0
                    obtain ⟨M', vs, S'⟩ := q
                    have hM' : ∃ mi, P mi = some M' ∧ plainName M'.1.cls = true := by
                      obtain ⟨kd, mj, nn, ci, tl, e1, e2, e3, e4⟩ := sx_prep_M hq
                      subst e1
                      obtain ⟨-, -, hcall⟩ := sx_okinv e4 hok
                      unfold sx_okcall at hcall
                      split at hcall
                      · rename_i kd' mj' n' ci' t1 t2 t3 t4 t5 t6 heq
                        cases heq
                        rw [e2] at hcall
                        simp only at hcall
                        rw [Bool.and_eq_true, Bool.and_eq_true, Bool.and_eq_true, Bool.and_eq_true, Bool.and_eq_true] at hcall
                        exact ⟨_, e2, hcall.1.1.2⟩
                      · rename_i kd' tl' _ heq
                        cases heq
                        exact absurd (Nat.eq_of_beq_eq_true hcall) e3
                      · rename_i h2
                        exact (h2 _ _ rfl).elim
                    obtain ⟨mj, hmj, hpl⟩ := hM'
                    refine ⟨⟨Nat.le_trans (Nat.le_add_right _ _) m1, Nat.le_trans (Nat.le_add_right _ _) m2⟩, fun p l e R s m args below meth c Q D cA z σ Fr A ρ f1 f2 f3 f4 C K => ?_⟩
                    have hpc : sx_rpc M r = pc0 := by unfold sx_rpc; rw [show sx_row M r = _ from hrow]
                    show sx_KM p l e R s m args below meth c Q D cA z σ Fr A M.2.2.1 (sx_rpc M r) k0 n0 ρ L S w nx
                    rw [hpc]
                    refine sx_call_ok hPG C htb hgood hok hq g1 g2 f1 f2 g4 (Nat.le_trans m1 f3) (Nat.le_trans m2 f4) (fun wl xs sz hxs hPI => sx_met hPG IH ⟨mj, hmj⟩ hpl hc2 hrv g3 l C.2.2.2.2.2.2.2.1 hxs hPI sz) (fun ρ' hg => ?_)
                    exact rest p l e R s m args below meth c Q D cA z σ Fr A ρ' f1 f2 f3 f4 C (fun ρ2 hg2 => K ρ2 (hg.tr hg2))
end SXH
