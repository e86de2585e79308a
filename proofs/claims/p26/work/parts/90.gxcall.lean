/-! a call whose end is told otherwise -/
section SXG
variable {p : Program} {l : Launch} {e : Env} {R : Room} {s : State} {m : MethodId} {args : Array Value} {below : List Frame} {meth : Method} {c : Code} {Q : State → Prop}
variable {D : va_G} {cA : Nat → ClassId} {z : Nat → Nat} {σ : Nat → Int} {B : sx_Bs} {Fr : va_W} {A : Nat → Prop} {tbs : List (List Cond)} {tb : List Cond} {own mname : String} {cc : ByteArray} {nL pc cells slots : Nat}
variable {ρ : Nat → Option Nat} {L L' : List (Nat × sx_V)} {S S' : List sx_V} {w w' : sx_W} {nx nx' dc ds : Nat} {P : Nat → Option sx_M}
theorem gx_call_ok (hPG : sx_PG P tbs) {M M' : sx_M} (C : sx_CX p s m args meth c D cA z σ B A tb M.1.cls M.1.name M.2.1 M.2.2.1) (htb : sx_tbOK tbs tb) (hgood : ∀ w ∈ tb, (w.onTables && w.keeps) = true ∨ ∃ ty, w = .arrayClass ty) {r pc0 len : Nat} {ins : Instr} {aux : List Nat} {cst : Int} (hok : sx_okR P tbs M r (pc0, ins, len, aux, cst) = true)
    {k0 n0 : Nat} {vs S' : List sx_V} {po : Option Value → (Nat → Option Nat) × va_W → Prop} {fr lo mc ms : Nat} (h : sx_prep P (pc0, ins, len, aux, cst) (r, L, S, w, nx, k0, n0) = some (M', vs, S'))
    (hf1 : 1 ≤ fr) (hf2 : M'.2.2.1 + 19 ≤ lo) (hfr : fr ≤ R.frames) (hlo : lo ≤ R.locals) (h8 : sx_sl S' ≤ 8) (hc : k0 + mc ≤ R.cells) (hs : n0 + ms ≤ R.slots)
    (hM : ∀ (wl : va_W) (xs : List Value) (sz : Nat), sx_RS ρ z σ vs xs → sx_PI cA ρ z σ Fr w nx wl → Met l M'.1 (sx_ws M' tb) ({ frames := fr - 1, cells := mc, slots := ms, locals := lo - (M'.2.2.1 + 19) }) (va_Pc xs (sx_Pre D cA z wl sz)) (sx_Q po (sx_Bst D (va_A wl sz)) (va_A wl sz)) mc ms (va_A wl sz))
    (K : ∀ (v : Option Value) (u : (Nat → Option Nat) × va_W) (H1 : Heap) (locs1 : List Loc) (ls : Array Slot) (lv : List (Nat × Value)) (rest : List Value), po v u → va_P D vwCl u.2 H1 → va_D A u.2 → va_S A s.heap H1 locs1 → lv_has ls M.2.2.1 lv → sx_RLs ρ z σ L lv → sx_RS ρ z σ S' rest → W p l e R s m args below meth c H1 locs1 (k0 + mc) (n0 + ms) Q (F0 m (sx_rpc M (r + 1)) ls (v.toList ++ rest))) : sx_KM p l e R s m args below meth c Q D cA z σ Fr A M.2.2.1 pc0 k0 n0 ρ L S w nx := by
  intro wl H locs hI hS ls lv st hl hL hSt
  obtain ⟨hx, hb, hml, hts, hown, hK, hZ, hB, hA, hn⟩ := C
  unfold sx_prep at h
  cases hinv : sx_isinv ins with
  | false => simp only [hinv, Bool.not_false, cond_true] at h; cases h
  | true =>
    simp only [hinv, Bool.not_true, cond_false] at h
    obtain ⟨hd, hr3, hcall⟩ := sx_okinv hinv hok
    rw [hr3] at K
    have hFc : ∀ q, va_A wl H.size q → A q := by
      intro q hq
      rcases hq with ⟨k, e9, hk⟩ | hq
      · exact hI.2.2.2.2.2.2 k (q, e9) hk
      · exact hA q (Nat.le_trans hS.1 hq)
    have hCF : CallFix p m c M.2.1 M.2.2.1 s args tb M.1.cls := ⟨hx, hb, hml, hown, hts⟩
    have prei : ∀ {xs : List Value}, ∀ U : State, U.heap = H → s.WarmedH U.vm → va_Pc xs (sx_Pre D cA z wl H.size) xs.toArray U := fun {xs} U hU hW =>
      ⟨rfl, by rw [hU], by rw [hU]; exact hI.2.2.2.2.1, va_K.moved hW.alike hK, hI.2.2.2.2.2.weaken (fun _ _ _ _ => trivial), by rw [hU]; exact SR.moved hW (SR.narrow (SR.kept hZ hS.2.1) hFc)⟩
    have hR : (fr - 1) + 1 ≤ R.frames ∧ 8 + (M'.2.2.1 + 11) + (lo - (M'.2.2.1 + 19)) ≤ R.locals := ⟨by omega, by omega⟩
    have go : ∀ {rest : List Value} {a : Array Value}, sx_RS ρ z σ S' rest → va_Run p l e R s m args below meth c H locs k0 n0 mc ms (F0 m pc0 ls st) rest (sx_Q po (sx_Bst D (va_A wl H.size)) (va_A wl H.size) a) (va_A wl H.size) → W p l e R s m args below meth c H locs k0 n0 Q (F0 m pc0 ls st) := fun {rest a} hrest run =>
      sx_callW run hS (fun q _ h => hFc q h) hFc (fun v u t H1 locs1 ht hvm hp hb9 hS1 =>
        K v u H1 locs1 ls lv rest hp (by rw [← ht]; exact hb9.1) (hb9.2.weaken (fun k q _ h => hFc q.1 h)) hS1 hl hL hrest)
    split at h
    · rename_i kd mj n ci tl
      split at h
      · cases h
      · rename_i M1 hM1
        unfold sx_okcall at hcall
        split at hcall
        · rename_i kd' mj' n' ci' t1 t2 t3 t4 t5 t6 heq
          cases heq
          rw [hM1] at hcall
          simp only at hcall
          rw [Bool.and_eq_true, Bool.and_eq_true, Bool.and_eq_true, Bool.and_eq_true, Bool.and_eq_true] at hcall
          obtain ⟨⟨⟨⟨⟨c4, c5⟩, cnp⟩, cpl⟩, cym⟩, crest⟩ := hcall
          have hini := hts _ (sx_has_in htb c4)
          have mcode : Cond.code M1.1 M1.2.1 M1.2.2.1 M1.2.2.2.1 ∈ tb := by
            obtain ⟨t9, ht9⟩ := (hPG mj M1 hM1).2.1 (of_decide_eq_true c5)
            exact sx_w_in htb ht9
          have hnp := of_decide_eq_true cnp
          have cym : (decide (M1.1.cls ≠ "java/lang/invoke/MethodHandle") && decide (M1.1.cls ≠ "java/lang/invoke/VarHandle")) = true := cym
          rw [Bool.and_eq_true] at cym
          have hy1 := of_decide_eq_true cym.1
          have hy2 := of_decide_eq_true cym.2
          have hG : GoodIn tb (sx_ws M1 tb) := fun w9 hw9 => by
            rcases List.mem_cons.mp hw9 with rfl | hw9
            · exact ⟨mcode, hgood _ mcode⟩
            · exact ⟨hw9, hgood _ hw9⟩
          -- what static calls share
          have stat : ∀ {rest : List Value}, (bif Nat.ble n S.length then some (M1, (S.take n).reverse, S.drop n) else none) = some (M', vs, S') → M1 = M' ∧ ∃ As rest, As.length = n ∧ st = As.reverse ++ rest ∧ sx_RS ρ z σ vs As ∧ sx_RS ρ z σ S' rest ∧ (rest.map fun v => v.category).sum ≤ 8 := by
            intro _ h
            cases hle : Nat.ble n S.length with
            | false => rw [hle] at h; cases h
            | true =>
              rw [hle] at h
              cases h
              obtain ⟨h1, h2⟩ := hSt.split (n := n)
              refine ⟨rfl, (st.take n).reverse, st.drop n, ?_, by rw [List.reverse_reverse, List.take_append_drop], h1.rev, h2, by rw [(sx_sl_ok h2).2]; exact h8⟩
              have := Nat.le_of_ble_eq_true hle
              rw [List.length_reverse, List.length_take, hSt.len]
              omega
          -- what the others share
          have inst : (match S.drop n with
              | .inr (.inr (some (.inl a))) :: S1 => (match sx_look 12 w a with
                | some (.inl (cj, _)) => bif Nat.beq cj ci || Nat.beq kd 1 || Nat.beq kd 5 then some (M1, (sx_id a) :: (S.take n).reverse, S1) else none
                | _ => none)
              | .inr (.inr (some (.inr q))) :: S1 => bif Nat.beq kd 0 && Nat.beq (q % 2) 0 && Nat.ble 100 q && Nat.blt q 166 && (match vwCl[ci]? with
                | some v => decide (v.1 = "java/lang/String")
                | none => false) then some (M1, (sx_ext q) :: (S.take n).reverse, S1) else none
              | _ => none) = some (M', vs, S') → M1 = M' ∧ ∃ (b : Nat) (As rest : List Value), As.length = n ∧ st = As.reverse ++ .ref b :: rest ∧ sx_RS ρ z σ vs (.ref b :: As) ∧ sx_RS ρ z σ S' rest ∧ (rest.map fun v => v.category).sum ≤ 8 ∧ (kd ≠ 1 → kd ≠ 5 → ∀ v, vwCl[ci]? = some v → ∃ cell : Cell, H[b]? = some cell ∧ cell.vm.isStatics = false ∧ s.vm.findClass v.1 = some cell.cls) := by
            intro h
            obtain ⟨h1, h2⟩ := hSt.split (n := n)
            have hlen : n + 1 ≤ S.length → (st.take n).reverse.length = n := fun q => by rw [List.length_reverse, List.length_take, hSt.len]; omega
            split at h
            · rename_i a S1 hdr
              have hle : n + 1 ≤ S.length := by
                have := congrArg List.length hdr
                rw [List.length_drop, List.length_cons] at this
                omega
              split at h
              · rename_i cj fs hcj
                cases hg : (Nat.beq cj ci || Nat.beq kd 1 || Nat.beq kd 5) with
                | false => simp only [hg] at h; cases h
                | true =>
                  simp only [hg, cond_true] at h
                  cases h
                  rw [hdr] at h2
                  obtain ⟨o, rest, e1, ⟨b, hb9, rfl⟩, hrest⟩ := h2.ref
                  refine ⟨rfl, b, (st.take n).reverse, rest, hlen hle, ?_, ⟨sx_RVr (r := some (.inl a)) ⟨b, hb9, rfl⟩, h1.rev⟩, hrest, by rw [(sx_sl_ok hrest).2]; exact h8, ?_⟩
                  · rw [List.reverse_reverse]
                    conv => lhs; rw [← List.take_append_drop n st, e1]
                    rfl
                  · intro k1 k5 v hv
                    obtain ⟨q0, a', e', q1, q2, ⟨xs9, rfl, -⟩⟩ := hI.1 a _ hcj
                    cases hb9.symm.trans q2
                    have : cj = ci := by
                      rw [Bool.or_eq_true, Bool.or_eq_true] at hg
                      rcases hg with (hg | hg) | hg
                      · exact Nat.eq_of_beq_eq_true hg
                      · exact absurd (Nat.eq_of_beq_eq_true hg) k1
                      · exact absurd (Nat.eq_of_beq_eq_true hg) k5
                    subst this
                    exact va_recv hK hI.2.2.2.2.1 hv q1
              · cases h
            · rename_i q S1 hdr
              have hle : n + 1 ≤ S.length := by
                have := congrArg List.length hdr
                rw [List.length_drop, List.length_cons] at this
                omega
              cases hg : (Nat.beq kd 0 && Nat.beq (q % 2) 0 && Nat.ble 100 q && Nat.blt q 166 && (match vwCl[ci]? with | some v => decide (v.1 = "java/lang/String") | none => false)) with
              | false => simp only [hg] at h; cases h
              | true =>
                simp only [hg, cond_true] at h
                cases h
                rw [Bool.and_eq_true, Bool.and_eq_true, Bool.and_eq_true, Bool.and_eq_true] at hg
                obtain ⟨⟨⟨⟨-, g1⟩, g2⟩, g3⟩, g4⟩ := hg
                have g1 := Nat.eq_of_beq_eq_true g1
                have g2 := Nat.le_of_ble_eq_true g2
                have g3 : q < 166 := Nat.le_of_ble_eq_true g3
                obtain ⟨j, rfl⟩ : ∃ j, q = 100 + 2 * j := ⟨(q - 100) / 2, by omega⟩
                rw [hdr] at h2
                obtain ⟨o, rest, e1, ho, hrest⟩ := h2.ref
                have ho9 := ho
                have ho : o = some (z (100 + 2 * j)) := ho.1 (by omega) (by omega)
                subst ho
                refine ⟨rfl, z (100 + 2 * j), (st.take n).reverse, rest, hlen hle, ?_, ⟨sx_RVr (r := some (.inr (100 + 2 * j))) ho9, h1.rev⟩, hrest, by rw [(sx_sl_ok hrest).2]; exact h8, ?_⟩
                · rw [List.reverse_reverse]
                  conv => lhs; rw [← List.take_append_drop n st, e1]
                  rfl
                · intro k1 k5 v hv
                  rw [hv] at g4
                  rw [of_decide_eq_true g4]
                  exact vk_recv hZ.2.2.2.2.2.2.2.2.1 (i := j) (by omega) hS
            · cases h
          have hd3 : M1.1.cls ≠ "java/lang/invoke/MethodHandle" ∧ M1.1.cls ≠ "java/lang/invoke/VarHandle" ∧ (parseMethodDescriptor M1.1.desc).map (fun d => d.parameters.length) = some n := ⟨hy1, hy2, hnp⟩
          have nestw : ∀ {idx : Nat}, (match sk_nest[t1]? with | some (.methodLinkNest o i y _) => decide (o = M.1.cls ∧ i = idx ∧ y = M1.1) | _ => false) = true → ∃ host, va_Nw (.methodLinkNest M.1.cls idx M1.1 host) s := by
            intro idx h
            split at h
            · rename_i o i y host hq
              obtain ⟨rfl, rfl, rfl⟩ := of_decide_eq_true h
              exact ⟨host, hZ.2.2.2.2.2.2.2.2.2.2 _ (List.mem_of_getElem? hq)⟩
            · cases h
          split at crest
          · -- virtual
            rename_i idx
            rw [Bool.and_eq_true, Bool.and_eq_true, Bool.and_eq_true] at crest
            obtain ⟨⟨⟨w1, w2⟩, w3⟩, w4⟩ := crest
            obtain ⟨rfl, b, As, rest, a1, a2, a3, a4, a5, a6⟩ := inst h
            split at w4
            · rename_i v hv
              have hcl9 := of_decide_eq_true w4
              have hrecv := a6 (by decide) (by decide) v hv
              rw [hcl9] at hrecv
              exact go a4 (va_runV (b := b) (As := As) (rest := rest) hCF (hM wl _ H.size a3 hI.pi) ⟨callB_of n hts hG rfl rfl rfl hini (hts _ (sx_has_in htb w1)) hd3 hR, hts _ (sx_has_in htb w2), hts _ (sx_has_in htb w3)⟩ ⟨sx_blind, hrecv, prei⟩ rfl a1 hl.1 a2 (lv_room a5) hd ⟨hc, hs⟩)
            · cases w4
          · -- constructor
            rename_i idx
            rw [Bool.and_eq_true, Bool.and_eq_true, Bool.and_eq_true] at crest
            obtain ⟨⟨⟨w1, w2⟩, w3⟩, w4⟩ := crest
            obtain ⟨rfl, b, As, rest, a1, a2, a3, a4, a5, a6⟩ := inst h
            have hret := of_decide_eq_true w4
            have hBk : CallB R s args M.1.cls idx M1.1 M1.2.1 M1.2.2.1 M1.2.2.2.1 (sx_ws M1 tb) ({ frames := fr - 1, cells := mc, slots := ms, locals := lo - (M1.2.2.1 + 19) }) mc ms n := callB_of n hts hG rfl rfl rfl hini (hts _ (sx_has_in htb w1)) hd3 hR
            rw [hret] at hBk
            exact go a4 (va_runI (b := b) (As := As) (rest := rest) hCF (hM wl _ H.size a3 hI.pi) ⟨hBk, of_decide_eq_true w3, hts _ (sx_has_in htb w2)⟩ ⟨sx_blind, prei⟩ rfl a1 hl.1 a2 (lv_room a5) hd ⟨hc, hs⟩)
          · -- static
            rename_i idx
            rw [Bool.and_eq_true] at crest
            obtain ⟨w1, w2⟩ := crest
            obtain ⟨rfl, As, rest, a1, a2, a3, a4, a5⟩ := stat (rest := []) h
            exact go a4 (va_runS (As := As) (rest := rest) hCF (hM wl _ H.size a3 hI.pi) ⟨callB_of n hts hG rfl rfl rfl hini (hts _ (sx_has_in htb w1)) hd3 hR, hts _ (sx_has_in htb w2)⟩ ⟨sx_blind, prei⟩ rfl a1 hl.1 a2 (lv_room a5) hd ⟨hc, hs⟩)
          · -- a nest mate's, virtual
            rename_i idx
            rw [Bool.and_eq_true, Bool.and_eq_true, Bool.and_eq_true] at crest
            obtain ⟨⟨⟨w2, w3⟩, w4⟩, w1⟩ := crest
            obtain ⟨rfl, b, As, rest, a1, a2, a3, a4, a5, a6⟩ := inst h
            obtain ⟨host, hnw⟩ := nestw w1
            split at w4
            · rename_i v hv
              have hcl9 := of_decide_eq_true w4
              have hrecv := a6 (by decide) (by decide) v hv
              rw [hcl9] at hrecv
              exact go a4 (va_runVN (b := b) (As := As) (rest := rest) hCF (hM wl _ H.size a3 hI.pi) ⟨va_cnB n hts hG rfl rfl rfl hnw hini hd3 hR, hts _ (sx_has_in htb w2), hts _ (sx_has_in htb w3)⟩ ⟨sx_blind, hrecv, prei⟩ rfl a1 hl.1 a2 (lv_room a5) hd ⟨hc, hs⟩)
            · cases w4
          · -- a nest mate's, static
            rename_i idx
            rw [Bool.and_eq_true] at crest
            obtain ⟨w2, w1⟩ := crest
            obtain ⟨rfl, As, rest, a1, a2, a3, a4, a5⟩ := stat (rest := []) h
            obtain ⟨host, hnw⟩ := nestw w1
            exact go a4 (va_runSN (As := As) (rest := rest) hCF (hM wl _ H.size a3 hI.pi) ⟨va_cnB n hts hG rfl rfl rfl hnw hini hd3 hR, hts _ (sx_has_in htb w2), trivial⟩ ⟨sx_blind, prei⟩ rfl a1 hl.1 a2 (lv_room a5) hd ⟨hc, hs⟩)
          · -- a nest mate's constructor
            rename_i idx
            rw [Bool.and_eq_true, Bool.and_eq_true, Bool.and_eq_true] at crest
            obtain ⟨⟨⟨w2, w3⟩, w4⟩, w1⟩ := crest
            obtain ⟨rfl, b, As, rest, a1, a2, a3, a4, a5, a6⟩ := inst h
            obtain ⟨host, hnw⟩ := nestw w1
            have hret := of_decide_eq_true w4
            have hBk : va_CN R s args M.1.cls idx M1.1 host M1.2.1 M1.2.2.1 M1.2.2.2.1 (sx_ws M1 tb) ({ frames := fr - 1, cells := mc, slots := ms, locals := lo - (M1.2.2.1 + 19) }) mc ms n := va_cnB n hts hG rfl rfl rfl hnw hini hd3 hR
            rw [hret] at hBk
            exact go a4 (va_runIN (b := b) (As := As) (rest := rest) hCF (hM wl _ H.size a3 hI.pi) ⟨hBk, of_decide_eq_true w3, hts _ (sx_has_in htb w2)⟩ ⟨sx_blind, prei⟩ rfl a1 hl.1 a2 (lv_room a5) hd ⟨hc, hs⟩)
          · -- inherited
            rename_i idx
            obtain ⟨rfl, b, As, rest, a1, a2, a3, a4, a5, a6⟩ := inst h
            split at crest
            · rename_i o i xn v hw1 hv
              rw [Bool.and_eq_true, Bool.and_eq_true, Bool.and_eq_true, Bool.and_eq_true] at crest
              obtain ⟨⟨⟨⟨w1, w6⟩, w3⟩, w2⟩, wn⟩ := crest
              obtain ⟨rfl, rfl, hyx⟩ := of_decide_eq_true w1
              have hT : GoodIn tb (va_wsU M.1.cls i v.1 M1.1.cls xn M1.1 (sx_ws M1 tb)) := by
                intro w9 hw9
                unfold va_wsU at hw9
                rcases List.mem_append.mp hw9 with q | q
                · have : w9 ∈ tb := by
                    simp only [List.mem_cons, List.not_mem_nil, or_false] at q
                    rcases q with rfl | rfl | rfl | rfl | rfl
                    · exact sx_w_in htb hw1
                    · exact sx_has_in htb w6
                    · exact sx_has_in htb w3
                    · exact sx_has_in htb w2
                    · exact sx_has_in htb c4
                  exact ⟨this, hgood _ this⟩
                · exact hG w9 q
              exact go a4 (va_runU (b := b) (As := As) (rest := rest) hCF (hM wl _ H.size a3 hI.pi) (va_cwU n hts hT rfl rfl rfl hyx ⟨hy1, hy2, of_decide_eq_true wn⟩ hR) ⟨sx_blind, a6 (by decide) (by decide) v hv, prei⟩ rfl a1 hl.1 a2 (lv_room a5) hd ⟨hc, hs⟩)
            · cases crest
          · -- the superclass's
            rename_i idx
            rw [Bool.and_eq_true, Bool.and_eq_true, Bool.and_eq_true, Bool.and_eq_true, Bool.and_eq_true] at crest
            obtain ⟨⟨⟨⟨⟨w1, w2⟩, w3⟩, w6⟩, w7⟩, w8⟩ := crest
            obtain ⟨rfl, b, As, rest, a1, a2, a3, a4, a5, a6⟩ := inst h
            have hT : GoodIn tb (va_wsSU M.1.cls idx M1.1 (sx_ws M1 tb)) := by
              intro w9 hw9
              unfold va_wsSU at hw9
              rcases List.mem_append.mp hw9 with q | q
              · have : w9 ∈ tb := by
                  simp only [List.mem_cons, List.not_mem_nil, or_false] at q
                  rcases q with rfl | rfl | rfl | rfl | rfl
                  · exact sx_has_in htb w1
                  · exact sx_has_in htb w6
                  · exact sx_has_in htb w3
                  · exact sx_has_in htb w2
                  · exact sx_has_in htb c4
                exact ⟨this, hgood _ this⟩
              · exact hG w9 q
            cases hv : vwCl[ci]? with
            | none => rw [hv] at w8; cases w8
            | some v =>
              exact go a4 (va_runSU (b := b) (As := As) (rest := rest) (hK.1 ci v hv).2 hCF (hM wl _ H.size a3 hI.pi) (va_cwSU n hts hT rfl rfl rfl ⟨of_decide_eq_true w7, hnp⟩ hR) ⟨sx_blind, a6 (by decide) (by decide) v hv, prei⟩ rfl a1 hl.1 a2 (lv_room a5) hd ⟨hc, hs⟩)
          · cases crest
        · rename_i kd' tl' _ heq
          cases heq
          have := Nat.eq_of_beq_eq_true hcall
          subst this
          cases h
        · rename_i h2
          exact (h2 _ _ rfl).elim
    · cases h
end SXG
/-! the callee's run, told otherwise -/
theorem gx_met {M : sx_M} (hM : ∃ mi, sx_p9 mi = some M) (hpl : plainName M.1.cls = true) {fr lo dk ds rr nx nx1 : Nat} {vs S1 rv : List sx_V} {L1 : List (Nat × sx_V)} {w w1 : sx_W} {z : Nat → Nat} {σ σ1 : Nat → Int} {P0 : Nat} (hsg : gx_G P0 M fr lo dk ds z σ (0, sx_ent 0 vs, [], w, nx) σ1 (rr, L1, S1, w1, nx1)) (hret : sx_ret [] M (rr, L1, S1, w1, nx1, 0, 0) = some rv) (hsl : sx_sl vs ≤ M.2.2.1) {fr2 lo2 : Nat} (hfr2 : fr ≤ fr2) (hlo2 : lo ≤ lo2)
    (l : Launch) {D : va_G} {cA : Nat → ClassId} {Fr : va_W} {ρ : Nat → Option Nat} {wl : va_W} {xs : List Value} (hxs : sx_RS ρ z σ vs xs) (hPI : sx_PI cA ρ z σ Fr w nx wl) (sz : Nat) :
    Met l M.1 (sx_ws M wsL_law) ({ frames := fr2, cells := dk, slots := ds, locals := lo2 }) (va_Pc xs (sx_Pre D cA z wl sz)) (sx_Q (fun v u => (∀ i a, i < P0 → ρ i = some a → u.1 i = some a) ∧ sx_RS u.1 z σ1 rv v.toList ∧ sx_PI cA u.1 z σ1 Fr w1 nx1 u.2) (sx_Bst D (va_A wl sz)) (va_A wl sz)) dk ds (va_A wl sz) := by
  refine Met.ofW (cc := M.2.1) (maxL := M.2.2.1) (ret := M.2.2.2.1) hpl rfl ?_
  intro p e s m args below meth c s₁ Bd hml hv
  obtain ⟨rfl, hsz, hP, hK, hD0, hZ⟩ := hv
  subst hsz
  have hx := Bd.exec
  have hb := Bd.bytes
  have hr := Bd.returns
  have hts : ∀ w ∈ wsL_law, w.before xs.toArray s = true := fun w hw => atoms_spec (ws := sx_ws M wsL_law) Bd.pre w (List.mem_cons_of_mem _ hw)
  have hown : s.vm.findClass M.1.cls = some m.cls := findClass_of_methodNamed Bd.named
  have hlocks := Bd.notSynchronized
  have hnm : meth.name = M.1.name := (name_of_methodNamed Bd.named Bd.method).1
  have hD := hD0.self (sz := s.heap.size)
  have hA : ∀ q : Nat, s.heap.size ≤ q → va_A wl s.heap.size q := fun q h => Or.inr h
  have hS : va_S (va_A wl s.heap.size) s.heap s.heap [] := va_S.rf
  have C : sx_CX p s m xs.toArray meth c D cA z σ [] (va_A wl s.heap.size) wsL_law M.1.cls M.1.name M.2.1 M.2.2.1 := ⟨hx, hb, hml, hts, hown, hK, hZ, fun q hq => (nomatch hq), hA, hnm⟩
  have hl := lv_entry xs (n := M.2.2.1) (by rw [(sx_sl_ok hxs).1]; exact hsl)
  rw [lg_entry_eq]
  obtain ⟨mi, hmi⟩ := hM
  have h0 := (sx_p9_PG mi M hmi).1
  have main := hsg.2 p l e (headSpec (sx_ws M wsL_law) ({ frames := fr2, cells := dk, slots := ds, locals := lo2 })).room s m xs.toArray below meth c (MQ below (sx_Q (fun v u => (∀ i a, i < P0 → ρ i = some a → u.1 i = some a) ∧ sx_RS u.1 z σ1 rv v.toList ∧ sx_PI cA u.1 z σ1 Fr w1 nx1 u.2) (sx_Bst D (va_A wl s.heap.size)) (va_A wl s.heap.size)) xs.toArray s dk ds (va_A wl s.heap.size)) D cA Fr (va_A wl s.heap.size) ρ 0 0 hfr2 hlo2 (Nat.le_of_eq (Nat.zero_add dk)) (Nat.le_of_eq (Nat.zero_add ds)) C (fun ρ' hge => ?_)
  · have := main wl s.heap [] (hPI.in hP hD) hS _ _ [] hl (sx_ent_ok 0 hxs) trivial
    rw [show sx_rpc M (0, sx_ent 0 vs, [], w, nx).1 = 0 from h0] at this
    exact this
  · rw [Nat.zero_add, Nat.zero_add]
    intro wl' H' locs' hI' hS' ls lv st hl' hL' hSt'
    unfold sx_ret at hret
    split at hret
    · cases hret
    · rename_i x hrow
      have hok := (sx_p9_PG mi M hmi).2.2 _ _ hrow
      obtain ⟨pc0, ins, len, aux, cst⟩ := x
      have hpc : sx_rpc M rr = pc0 := by unfold sx_rpc; rw [hrow]
      rw [hpc]
      have hdec : ∀ {ins : Instr}, (decide (decode M.2.1 pc0 = .ok (ins, len)) && Nat.beq len 1) = true → decode M.2.1 pc0 = .ok (ins, 1) := fun {ins} q => by
        rw [Bool.and_eq_true] at q
        have e1 := of_decide_eq_true q.1
        rw [Nat.eq_of_beq_eq_true q.2] at e1
        exact e1
      have fin : ∀ {v : Option Value}, sx_RS ρ' z σ1 rv v.toList → ∀ t : State, t.heap = H' → s.WarmedH t.vm → sx_Q (fun v u => (∀ i a, i < P0 → ρ i = some a → u.1 i = some a) ∧ sx_RS u.1 z σ1 rv v.toList ∧ sx_PI cA u.1 z σ1 Fr w1 nx1 u.2) (sx_Bst D (va_A wl s.heap.size)) (va_A wl s.heap.size) xs.toArray s (.returned v) t := fun {v} hv t ht hW =>
        ⟨⟨v, (ρ', wl'), rfl, ⟨hge, hv, hI'.pi⟩, by rw [ht]; exact hI'.2.2.2.2.1, hI'.2.2.2.2.2⟩, hS'.F ht⟩
      split at hret
      · rename_i v ty hins hS1 hret9
        have hins : ins = .ireturn := hins
        subst hins
        cases hcd : (Nat.blt (sx_code ty) 4 && sx_fit [] (sx_code ty) (.inl v)) with
        | false => simp only [hcd] at hret; cases hret
        | true =>
          simp only [hcd, cond_true] at hret
          cases hret
          rw [Bool.and_eq_true] at hcd
          rw [hS1] at hSt'
          obtain ⟨y, q, rfl, hy, hq⟩ := hSt'.int
          have := hq.nil
          subst this
          exact W.zret hx hb (hr.trans hret9) (sx_fit_ok (B := []) (σ := σ1) (fun q hq => nomatch hq) hcd.2 (sx_RVi (ρ := ρ') (z := z) hy) rfl).1 (fin ⟨sx_RVi hy, trivial⟩) hS'.2.2 (hdec hok) hlocks
      · rename_i v hins hS1 hret9
        have hins : ins = .lreturn := hins
        subst hins
        cases hret
        rw [hS1] at hSt'
        obtain ⟨y, q, rfl, hy, hq⟩ := hSt'.long
        have := hq.nil
        subst this
        exact W.lret hx hb (hr.trans hret9) (fin ⟨sx_RVl hy, trivial⟩) hS'.2.2 (hdec hok) hlocks
      · rename_i v nm hins hS1 hret9
        have hins : ins = .areturn := hins
        subst hins
        cases hret
        rw [hS1] at hSt'
        obtain ⟨o, q, rfl, hy, hq⟩ := hSt'.ref
        have := hq.nil
        subst this
        exact W.aret hx hb (hr.trans hret9) (Or.inl ⟨nm, rfl⟩) (by cases o with | none => exact Or.inl rfl | some a => exact Or.inr ⟨a, rfl⟩) (fin ⟨sx_RVr hy, trivial⟩) hS'.2.2 (hdec hok) hlocks
      · rename_i v nm hins hS1 hret9
        have hins : ins = .areturn := hins
        subst hins
        cases hret
        rw [hS1] at hSt'
        obtain ⟨o, q, rfl, hy, hq⟩ := hSt'.ref
        have := hq.nil
        subst this
        exact W.aret hx hb (hr.trans hret9) (Or.inr ⟨nm, rfl⟩) (by cases o with | none => exact Or.inl rfl | some a => exact Or.inr ⟨a, rfl⟩) (fin ⟨sx_RVr hy, trivial⟩) hS'.2.2 (hdec hok) hlocks
      · rename_i hins hS1 hret9
        have hins : ins = .return_ := hins
        subst hins
        cases hret
        rw [hS1] at hSt'
        have := hSt'.nil
        subst this
        exact W.vret hx hb (hr.trans hret9) (fin (v := none) trivial) hS'.2.2 (hdec hok) hlocks
      · cases hret
/-- what the caller keeps -/
def gx_lo (P : Nat) (v : sx_V) : Bool := match v with
  | .inl (.inl e) => e.2.all (fun q => Nat.ble 1000 q.1)
  | .inl (.inr _) => true
  | .inr (.inl e) => e.2.all (fun q => Nat.ble 1000 q.1)
  | .inr (.inr (some (.inl i))) => Nat.blt i P
  | .inr (.inr _) => true
section GXL
variable {ρ ρ' : Nat → Option Nat} {z : Nat → Nat} {σ σ1 : Nat → Int} {P : Nat}
theorem gx_loI (hσ : ∀ u, 1000 ≤ u → σ1 u = σ u) {e : sx_I} (h : e.2.all (fun q => Nat.ble 1000 q.1) = true) : sx_ev σ1 e = sx_ev σ e := by
  have key : ∀ (l : List (Nat × Int)), l.all (fun q => Nat.ble 1000 q.1) = true → sx_evl σ1 l = sx_evl σ l := by
    intro l
    induction l with
    | nil => exact fun _ => rfl
    | cons q t ih =>
      intro h
      rw [List.all_cons, Bool.and_eq_true] at h
      show q.2 * σ1 q.1 + sx_evl σ1 t = q.2 * σ q.1 + sx_evl σ t
      rw [ih h.2, hσ q.1 (Nat.le_of_ble_eq_true h.1)]
  unfold sx_ev
  rw [key e.2 h]
theorem gx_loV (hσ : ∀ u, 1000 ≤ u → σ1 u = σ u) (hρ : ∀ i a, i < P → ρ i = some a → ρ' i = some a) {v : sx_V} {x : Value} (hl : gx_lo P v = true) (h : sx_RV ρ z σ v x) : sx_RV ρ' z σ1 v x := by
  match v, hl, h with
  | .inl (.inl e), hl, ⟨y, h1, h2⟩ => exact ⟨y, h1, by show y = Int32.ofInt (sx_ev σ1 e); rw [gx_loI hσ hl]; exact h2⟩
  | .inl (.inr r), _, h => exact h
  | .inr (.inl e), hl, ⟨y, h1, h2⟩ => exact ⟨y, h1, by show y = Int64.ofInt (sx_ev σ1 e); rw [gx_loI hσ hl]; exact h2⟩
  | .inr (.inr none), _, h => exact h
  | .inr (.inr (some (.inr q))), _, h => exact h
  | .inr (.inr (some (.inl i))), hl, ⟨o, h1, a, h2, h3⟩ => exact ⟨o, h1, a, hρ i a (Nat.le_of_ble_eq_true hl) h2, h3⟩
theorem gx_loL (hσ : ∀ u, 1000 ≤ u → σ1 u = σ u) (hρ : ∀ i a, i < P → ρ i = some a → ρ' i = some a) : ∀ {L : List (Nat × sx_V)} {lv : List (Nat × Value)}, L.all (fun q => gx_lo P q.2) = true → sx_RLs ρ z σ L lv → sx_RLs ρ' z σ1 L lv
  | [], [], _, _ => trivial
  | [], _ :: _, _, h => h.elim
  | _ :: _, [], _, h => h.elim
  | q :: L, x :: lv, hk, h => by
    rw [List.all_cons, Bool.and_eq_true] at hk
    exact ⟨h.1, gx_loV hσ hρ hk.1 h.2.1, gx_loL hσ hρ hk.2 h.2.2⟩
theorem gx_loS (hσ : ∀ u, 1000 ≤ u → σ1 u = σ u) (hρ : ∀ i a, i < P → ρ i = some a → ρ' i = some a) : ∀ {S : List sx_V} {st : List Value}, S.all (fun q => gx_lo P q) = true → sx_RS ρ z σ S st → sx_RS ρ' z σ1 S st
  | [], [], _, _ => trivial
  | [], _ :: _, _, h => h.elim
  | _ :: _, [], _, h => h.elim
  | q :: L, x :: lv, hk, h => by
    rw [List.all_cons, Bool.and_eq_true] at hk
    exact ⟨gx_loV hσ hρ hk.1 h.1, gx_loS hσ hρ hk.2 h.2⟩
end GXL
/-- a call whose end is told otherwise; what the caller keeps stays -/
theorem gx_G.call {M M' : sx_M} {mi mj : Nat} (hM : sx_p9 mi = some M) (hM' : sx_p9 mj = some M') {x : sx_R} {r nx nx1 rr fr lo fr1 lo1 dk ds P : Nat} {L L1 : List (Nat × sx_V)} {S S' S1 vs rv : List sx_V} {w w1 : sx_W} {z : Nat → Nat} {σ σ1 : Nat → Int}
    (hrow : sx_row M r = some x) (hpl : plainName M'.1.cls = true) (hp : sx_prep sx_p9 x (r, L, S, w, nx, 0, 0) = some (M', vs, S')) (h1 : 1 ≤ fr) (h2 : M'.2.2.1 + 19 ≤ lo) (h3 : fr1 ≤ fr - 1) (h4 : lo1 ≤ lo - (M'.2.2.1 + 19)) (h5 : sx_sl vs ≤ M'.2.2.1) (h6 : sx_sl S' ≤ 8)
    (hsg : gx_G P M' fr1 lo1 dk ds z σ (0, sx_ent 0 vs, [], w, nx) σ1 (rr, L1, S1, w1, nx1)) (hret : sx_ret [] M' (rr, L1, S1, w1, nx1, 0, 0) = some rv) (hL : L.all (fun q => gx_lo P q.2) = true) (hS : S'.all (fun q => gx_lo P q) = true) : gx_G P M fr lo dk ds z σ (r, L, S, w, nx) σ1 (r + 1, L, rv ++ S', w1, nx1) := by
  refine ⟨hsg.1, ?_⟩
  intro p l e R s m args below meth c Q D cA Fr A ρ k n hfr hlo hk hn C K
  have hok := (sx_p9_PG mi M hM).2.2 _ _ hrow
  obtain ⟨pc0, ins, len, aux, cst⟩ := x
  have hpc : sx_rpc M r = pc0 := by unfold sx_rpc; rw [hrow]
  show sx_KM p l e R s m args below meth c Q D cA z σ Fr A M.2.2.1 (sx_rpc M r) k n ρ L S w nx
  rw [hpc]
  have hp : sx_prep sx_p9 (pc0, ins, len, aux, cst) (r, L, S, w, nx, k, n) = some (M', vs, S') := hp
  refine gx_call_ok (B := []) sx_p9_PG C sx_tb_ok sx_good hok hp h1 h2 hfr hlo h6 hk hn (fun wl xs sz hxs hPI => gx_met ⟨mj, hM'⟩ hpl hsg hret h5 h3 h4 l hxs hPI sz) (fun v u H1 locs1 ls lv rest hpo hPp hDd hSs hl hLv hrest => ?_)
  obtain ⟨a1, a2, a3⟩ := hpo
  exact K u.1 a1 u.2 H1 locs1 (a3.in hPp hDd) hSs ls lv (v.toList ++ rest) hl (gx_loL hsg.1 a1 hL hLv) (a2.app (gx_loS hsg.1 a1 hS hrest))
