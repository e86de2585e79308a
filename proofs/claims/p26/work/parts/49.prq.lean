/-! a list's row made longer -/
theorem sx_PI.new {cA : Nat → ClassId} {ρ : Nat → Option Nat} {z : Nat → Nat} {σ : Nat → Int} {Fr wls : va_W} {w : sx_W} {nx : Nat} (h : sx_PI cA ρ z σ Fr w nx wls) {q : Nat} {e : va_E} {c : sx_C} (fresh : ∀ (k : Nat) (a : Nat) (e' : va_E), wls[k]? = some (a, e') → a ≠ q) (hc : ∀ ρ', sx_ge ρ ρ' → sx_RC ρ' z σ cA c e) : ∃ ρ', sx_ge ρ ρ' ∧ ρ' nx = some q ∧ sx_PI cA ρ' z σ Fr (sx_upd c 12 w nx) (nx + 1) (wls ++ [(q, e)]) := by
  obtain ⟨h1, h2, h3, h4⟩ := h
  have hge : sx_ge ρ (fun j => if j = nx then some q else ρ j) := by
    intro i a hi
    have := (h2 i a hi).1
    show (if i = nx then some q else ρ i) = some a
    rw [if_neg (by omega)]
    exact hi
  have inl : ∀ {k : Nat} {x : Nat × va_E}, wls[k]? = some x → (wls ++ [(q, e)])[k]? = some x := fun {k x} hk => by
    rw [List.getElem?_append_left (List.getElem?_eq_some_iff.mp hk).1]
    exact hk
  refine ⟨fun j => if j = nx then some q else ρ j, hge, by show (if nx = nx then some q else ρ nx) = _; rw [if_pos rfl], ?_, ?_, ?_, ?_⟩
  · intro j c' hj
    rcases sx_look_upd 12 hj with ⟨rfl, rfl⟩ | ⟨hne, hj⟩
    · exact ⟨wls.length, q, e, by rw [List.getElem?_append_right (Nat.le_refl _), Nat.sub_self]; rfl, by show (if j = j then some q else ρ j) = _; rw [if_pos rfl], hc _ hge⟩
    · obtain ⟨k', a', e', q1, q2, q3⟩ := h1 j c' hj
      exact ⟨k', a', e', inl q1, hge j a' q2, q3.mono hge⟩
  · intro j a hj
    have hj : (if j = nx then some q else ρ j) = some a := hj
    split at hj
    · rename_i e1
      cases hj
      exact ⟨by omega, wls.length, e, by rw [List.getElem?_append_right (Nat.le_refl _), Nat.sub_self]; rfl⟩
    · obtain ⟨q0, k', e', q1⟩ := h2 j a hj
      exact ⟨by omega, k', e', inl q1⟩
  · intro i j a hi hj
    have hi : (if i = nx then some q else ρ i) = some a := hi
    have hj : (if j = nx then some q else ρ j) = some a := hj
    split at hi <;> split at hj
    · omega
    · cases hi
      obtain ⟨-, k', e', q1⟩ := h2 j _ hj
      exact absurd rfl (fresh _ _ _ q1)
    · cases hj
      obtain ⟨-, k', e', q1⟩ := h2 i _ hi
      exact absurd rfl (fresh _ _ _ q1)
    · exact h3 i j a hi hj
  · intro x hx
    obtain ⟨⟨k', q1⟩, q2⟩ := h4 x hx
    refine ⟨⟨k', inl q1⟩, fun i hi => ?_⟩
    have hi : (if i = nx then some q else ρ i) = some x.1 := hi
    split at hi
    · cases hi
      exact absurd rfl (fresh k' x.1 x.2 q1)
    · exact q2 i hi
def sx_ckq (w : sx_W) (n : Nat) (q : Nat × sx_V) : Bool := Nat.blt q.1 n && (match q.2 with
  | .inr (.inr none) => true
  | .inr (.inr (some (.inl j))) => (match sx_look 12 w j with
    | some (.inl (ci, _)) => Nat.beq ci 6
    | _ => false)
  | _ => false)
noncomputable def sx_prQ : sx_Pr := fun fr lo M x c => bif Nat.beq (x.2.2.2.1.getD 1 0) 228 then (match sx_prep sx_pg x c with
  | some (_, vs, S') => bif Nat.ble 3 fr && Nat.ble 111 lo && Nat.ble (sx_sl S') 8 then (match vs with
    | [.inr (.inr (some (.inl a))), .inl (.inl (.ofNat k9, []))] => (match sx_look 12 c.2.2.2.1 a with
      | some (.inr (t, n9, true, u)) => bif Nat.beq t 11 && Nat.ble n9 k9 && Nat.ble k9 1000000 && u.all (sx_ckq c.2.2.2.1 n9) then some (c.1 + 1, c.2.1, sx_id c.2.2.2.2.1 :: S', sx_upd (.inr (11, k9, true, u)) 12 c.2.2.2.1 c.2.2.2.2.1, c.2.2.2.2.1 + 1, c.2.2.2.2.2.1 + 1, c.2.2.2.2.2.2 + k9) else none
      | _ => none)
    | _ => none) else none
  | none => none) else none
theorem sx_ckq_ok {w : sx_W} {n : Nat} {q : Nat × sx_V} (h : sx_ckq w n q = true) : q.1 < n ∧ (q.2 = .inr (.inr none) ∨ ∃ (j : Nat) (fs : List (Option sx_V)), q.2 = .inr (.inr (some (.inl j))) ∧ sx_look 12 w j = some (.inl (6, fs))) := by
  obtain ⟨i, v⟩ := q
  unfold sx_ckq at h
  rw [Bool.and_eq_true] at h
  obtain ⟨h1, h2⟩ := h
  refine ⟨Nat.le_of_ble_eq_true h1, ?_⟩
  match v, h2 with
  | .inl _, h2 => cases h2
  | .inr (.inl _), h2 => cases h2
  | .inr (.inr none), h2 => exact Or.inl rfl
  | .inr (.inr (some (.inr _))), h2 => cases h2
  | .inr (.inr (some (.inl j))), h2 =>
    have h2 : (match sx_look 12 w j with
      | some (.inl (ci, _)) => Nat.beq ci 6
      | _ => false) = true := h2
    split at h2
    · rename_i ci fs hj
      have := Nat.eq_of_beq_eq_true h2
      subst this
      exact Or.inr ⟨j, fs, rfl, hj⟩
    · cases h2
theorem sx_rfN {o : Option Nat} (h : va_rf o = .null) : o = none := by
  cases o with
  | none => rfl
  | some a => cases h
theorem sx_rfI {o o' : Option Nat} (h : va_rf o = va_rf o') : o = o' := by
  cases o with
  | none => exact (sx_rfN h.symm).symm
  | some a => cases o' with
    | none => cases h
    | some b => cases h; rfl
theorem sx_prQ_ok (B : sx_Bs) : sx_PR1 B sx_prQ := by
  intro fr lo M x c0 c1 h hok
  obtain ⟨r, L, S, w, nx, k, n⟩ := c0
  unfold sx_prQ at h
  cases hm : Nat.beq (x.2.2.2.1.getD 1 0) 228 with
  | false => simp only [hm, cond_false] at h; cases h
  | true =>
    simp only [hm, cond_true] at h
    split at h
    · rename_i M' vs S' hq
      have hM' := sx_prep_at hq hm
      have hM9 : sx_pg 228 = some sm_J7_copyOf_1904c := rfl
      rw [hM9] at hM'
      cases hM'
      cases hg : (Nat.ble 3 fr && Nat.ble 111 lo && Nat.ble (sx_sl S') 8) with
      | false => simp only [hg, cond_false] at h; cases h
      | true =>
        simp only [hg, cond_true] at h
        rw [Bool.and_eq_true, Bool.and_eq_true] at hg
        obtain ⟨⟨g1, g2⟩, g3⟩ := hg
        have g1 := Nat.le_of_ble_eq_true g1
        have g2 := Nat.le_of_ble_eq_true g2
        have g3 := Nat.le_of_ble_eq_true g3
        split at h
        · rename_i a k9
          split at h
          · rename_i t n9 u ha
            cases hc : (Nat.beq t 11 && Nat.ble n9 k9 && Nat.ble k9 1000000 && u.all (sx_ckq w n9)) with
            | false => simp only [hc, cond_false] at h; cases h
            | true =>
              simp only [hc, cond_true] at h
              rw [Bool.and_eq_true, Bool.and_eq_true, Bool.and_eq_true] at hc
              obtain ⟨⟨⟨c2, c3⟩, c4⟩, c5⟩ := hc
              have c2 := Nat.eq_of_beq_eq_true c2
              have c3 := Nat.le_of_ble_eq_true c3
              have c4 := Nat.le_of_ble_eq_true c4
              subst c2
              cases h
              refine sx_hook (mc := 1) (ms := k9) hok hq (by omega) (show 2 + 19 ≤ lo by omega) g3 (rv := [sx_id nx]) (fun l D cA z σ Fr ρ wls xs sz hB hxs hPI => ?_)
              obtain ⟨o2, xs2, rfl, ⟨aa, hρ, ho2⟩, h3⟩ := hxs.ref
              obtain ⟨y1, xs3, rfl, hy1, h4⟩ := h3.int
              have := h4.nil
              subst this
              subst ho2
              have hy1 : y1 = Int32.ofInt (sx_ev σ (sx_c (Int.ofNat k9))) := hy1
              rw [sx_ev_c] at hy1
              have e1 : y1 = nI k9 := hy1.trans (Int32.ofInt_eq_ofNat (n := k9))
              subst e1
              obtain ⟨kk, aa', e9, hk, hρ', ⟨xx, rfl, hx0, hx1⟩⟩ := hPI.1 a _ ha
              rw [hρ] at hρ'
              cases hρ'
              obtain ⟨x0, x1⟩ := xx
              have hx0 : x0 = n9 := hx0
              subst hx0
              match x1, hx1 with
              | .inl g, hx1 => exact absurd hx1.1 (show ¬ 11 < 4 by decide)
              | .inr (.inl g), hx1 => exact absurd hx1.1 (show ¬ (11 : Nat) = 4 by decide)
              | .inr (.inr (.inl g)), hx1 => exact hx1.elim
              | .inr (.inr (.inr (.inl g))), hx1 => exact hx1.elim
              | .inr (.inr (.inr (.inr g))), hx1 =>
                have hRA : sx_RA ρ z σ u true .null (fun k => va_rf (g k)) := hx1.2
                have hel : ∀ i, i < x0 → ∀ y, g i = some y → ∃ (j : Nat) (xs : List Value), wls[j]? = some (y, .inr (6, xs)) := by
                  intro i hi y hy
                  have h9 := hRA i
                  cases hl : sx_lk u i with
                  | none =>
                    rw [hl] at h9
                    have h9 : va_rf (g i) = .null := h9 rfl
                    rw [hy] at h9
                    cases h9
                  | some v =>
                    rw [hl] at h9
                    obtain ⟨-, hv⟩ := sx_ckq_ok (List.all_eq_true.mp c5 _ (sx_lk_in hl))
                    have h9 : sx_RV ρ z σ v (va_rf (g i)) := h9
                    rw [hy] at h9
                    rcases hv with hv | ⟨j, fs, hv, hj⟩
                    · have hv : v = .inr (.inr none) := hv
                      subst hv
                      obtain ⟨o, p1, p2⟩ := h9
                      have p2 : o = none := p2
                      subst p2
                      exact absurd (sx_rfI p1) (fun q => by cases q)
                    · have hv : v = .inr (.inr (some (.inl j))) := hv
                      subst hv
                      obtain ⟨o, p1, a8, p2, p3⟩ := h9
                      subst p3
                      have p4 := sx_rfI p1
                      cases p4
                      obtain ⟨k8, a7, e8, q1, q2, ⟨xs8, rfl, -⟩⟩ := hPI.1 j _ hj
                      rw [p2] at q2
                      cases q2
                      exact ⟨k8, xs8, q1⟩
                refine (m_cq2 l (D := D) (z := z) (sz := sz) hk c3 c4 hel (show 2 ≤ fr - 1 by omega) (show 90 ≤ lo - (2 + 19) by omega)).imp9 (fun a9 s9 o9 t9 hQ => ?_)
                obtain ⟨⟨v, u9, ho, hvv, hB9⟩, hF⟩ := hQ
                subst hvv
                have fresh : ∀ (k : Nat) (a : Nat) (e' : va_E), wls[k]? = some (a, e') → a ≠ u9 := by
                  intro k a e' hk9 hq9
                  have hl := (List.getElem?_eq_some_iff.mp hk9).1
                  have := hB9.2.1 k wls.length (a, e') (u9, .inl (cA 11, k9, cq_q (va_cpy g (fun _ => none) 0 0 x0))) (by rw [List.getElem?_append_left hl]; exact hk9) (by rw [List.getElem?_append_right (Nat.le_refl _), Nat.sub_self]; rfl) hq9
                  omega
                obtain ⟨ρ', r1, r2, r3⟩ := hPI.new (q := u9) (e := .inl (cA 11, k9, cq_q (va_cpy g (fun _ => none) 0 0 x0))) (c := .inr (11, k9, true, u)) fresh (fun ρ' hge => ⟨(k9, cq_q (va_cpy g (fun _ => none) 0 0 x0)), rfl, rfl, (show 5 ≤ 11 by decide), fun i => by
                  have h9 := hRA i
                  cases hl : sx_lk u i with
                  | none =>
                    rw [hl] at h9
                    intro _
                    have h9 : va_rf (g i) = .null := h9 rfl
                    show va_rf (va_cpy g (fun _ => none) 0 0 x0 i) = .null
                    unfold va_cpy
                    split
                    · rw [Nat.sub_zero, Nat.zero_add]; exact h9
                    · rfl
                  | some v =>
                    rw [hl] at h9
                    have hlt : i < x0 := (sx_ckq_ok (List.all_eq_true.mp c5 _ (sx_lk_in hl))).1
                    show sx_RV ρ' z σ v (va_rf (va_cpy g (fun _ => none) 0 0 x0 i))
                    have e6 : va_cpy g (fun _ => none) 0 0 x0 i = g i := by
                      unfold va_cpy
                      rw [if_pos ⟨Nat.zero_le _, by omega⟩, Nat.sub_zero, Nat.zero_add]
                    rw [e6]
                    exact sx_RV.mono hge h9⟩)
                exact ⟨⟨_, (ρ', _), ho, ⟨r1, ⟨sx_RVr (r := some (.inl nx)) (o := some u9) ⟨u9, r2, rfl⟩, trivial⟩, r3⟩, hB9⟩, hF⟩
          · cases h
        · cases h
    · cases h
/-! a row filled with zero -/
theorem sx_PI.set {cA : Nat → ClassId} {ρ : Nat → Option Nat} {z : Nat → Nat} {σ : Nat → Int} {Fr wl : va_W} {w : sx_W} {nx : Nat} (h : sx_PI cA ρ z σ Fr w nx wl) {i k a : Nat} {e e0 : va_E} {c : sx_C} (hi : ρ i = some a) (hk : wl[k]? = some (a, e0)) (hc : sx_RC ρ z σ cA c e) : sx_PI cA ρ z σ Fr (sx_upd c 12 w i) nx (wl.set k (a, e)) := by
  obtain ⟨h1, h2, h3, h4⟩ := h
  have hl := (List.getElem?_eq_some_iff.mp hk).1
  refine ⟨?_, ?_, h3, ?_⟩
  · intro j c' hj
    rcases sx_look_upd 12 hj with ⟨rfl, rfl⟩ | ⟨hne, hj⟩
    · exact ⟨k, a, e, by rw [List.getElem?_set_self hl], hi, hc⟩
    · obtain ⟨k', a', e', q1, q2, q3⟩ := h1 j c' hj
      refine ⟨k', a', e', ?_, q2, q3⟩
      by_cases hkk : k' = k
      · subst hkk
        rw [hk] at q1
        cases q1
        exact absurd (h3 j i _ q2 hi) hne
      · rw [List.getElem?_set_ne (Ne.symm hkk)]
        exact q1
  · intro j a' hj
    obtain ⟨q0, k', e', q1⟩ := h2 j a' hj
    refine ⟨q0, ?_⟩
    by_cases hkk : k' = k
    · subst hkk
      rw [hk] at q1
      cases q1
      exact ⟨k', e, by rw [List.getElem?_set_self hl]⟩
    · exact ⟨k', e', by rw [List.getElem?_set_ne (Ne.symm hkk)]; exact q1⟩
  · intro x hx
    obtain ⟨⟨k', q1⟩, q2⟩ := h4 x hx
    refine ⟨⟨k', ?_⟩, q2⟩
    by_cases hkk : k' = k
    · subst hkk
      rw [hk] at q1
      cases q1
      exact absurd hi (q2 i)
    · rw [List.getElem?_set_ne (Ne.symm hkk)]
      exact q1
theorem dJ7_fill_53178_0 : decode cJ7_fill_53178 0 = .ok (.iconst 0, 1) := by decide +kernel
theorem dJ7_fill_53178_1 : decode cJ7_fill_53178 1 = .ok (.istore_n 2, 1) := by decide +kernel
theorem dJ7_fill_53178_2 : decode cJ7_fill_53178 2 = .ok (.aload_n 0, 1) := by decide +kernel
theorem dJ7_fill_53178_3 : decode cJ7_fill_53178 3 = .ok (.arraylength, 1) := by decide +kernel
theorem dJ7_fill_53178_4 : decode cJ7_fill_53178 4 = .ok (.istore_n 3, 1) := by decide +kernel
theorem dJ7_fill_53178_5 : decode cJ7_fill_53178 5 = .ok (.iload_n 2, 1) := by decide +kernel
theorem dJ7_fill_53178_6 : decode cJ7_fill_53178 6 = .ok (.iload_n 3, 1) := by decide +kernel
theorem dJ7_fill_53178_7 : decode cJ7_fill_53178 7 = .ok (.if_icmp .ge 13, 3) := by decide +kernel
theorem dJ7_fill_53178_10 : decode cJ7_fill_53178 10 = .ok (.aload_n 0, 1) := by decide +kernel
theorem dJ7_fill_53178_11 : decode cJ7_fill_53178 11 = .ok (.iload_n 2, 1) := by decide +kernel
theorem dJ7_fill_53178_12 : decode cJ7_fill_53178 12 = .ok (.iload_n 1, 1) := by decide +kernel
theorem dJ7_fill_53178_13 : decode cJ7_fill_53178 13 = .ok (.iastore, 1) := by decide +kernel
theorem dJ7_fill_53178_14 : decode cJ7_fill_53178 14 = .ok (.iinc 2 1, 3) := by decide +kernel
theorem dJ7_fill_53178_17 : decode cJ7_fill_53178 17 = .ok (.goto (-12), 3) := by decide +kernel
theorem dJ7_fill_53178_20 : decode cJ7_fill_53178 20 = .ok (.return_, 1) := by decide +kernel
theorem m_fill (l : Launch) {D : va_G} {cA : Nat → ClassId} {z : Nat → Nat} {wl : va_W} {sz a n q0 : Nat} {f : Nat → Int32} (h0 : wl[q0]? = some (a, .inl (cA 0, n, .inl f))) (hz : ∀ i, n ≤ i → f i = 0) (hn : n ≤ 1000000) {fr lo : Nat} :
    Met l yJ7_fill_53178 (Cond.code yJ7_fill_53178 cJ7_fill_53178 4 none :: wsL_law) ({ frames := fr, cells := 0, slots := 0, locals := lo }) (va_Pc [.ref a, .int 0] (sx_Pre D cA z wl sz)) (sx_Q (fun (v : Option Value) (_ : Unit) => v = none) (fun _ t => va_P D vwCl (wl.set q0 (a, .inl (cA 0, n, .inl (fun _ => 0)))) t.heap ∧ va_D (va_A wl sz) (wl.set q0 (a, .inl (cA 0, n, .inl (fun _ => 0))))) (va_A wl sz)) 0 0 (va_A wl sz) := by
  refine Met.ofW (cc := cJ7_fill_53178) (maxL := 4) (ret := none) (by decide) rfl ?_
  intro p e s m args below meth c s₁ Bd hml hv
  obtain ⟨rfl, hsz, hP, hK, hD0, hZ⟩ := hv
  subst hsz
  have hx := Bd.exec
  have hb := Bd.bytes
  have hr := Bd.returns
  have hown : s.vm.findClass RJ7 = some m.cls := findClass_of_methodNamed Bd.named
  have hlocks := Bd.notSynchronized
  have hD := hD0.self (sz := s.heap.size)
  have hS : va_S (va_A wl s.heap.size) s.heap s.heap [] := va_S.rf
  have hlt := (List.getElem?_eq_some_iff.mp h0).1
  have hl := lv_entry ([.ref a, .int 0]) (n := 4) (Nat.le_of_ble_eq_true rfl)
  rw [lg_entry_eq]
  generalize (lg_sl ([.ref a, .int 0]) ++ List.replicate (4 - (lg_sl ([.ref a, .int 0])).length) Slot.unset).toArray = ls at hl ⊢
  have hl : lv_has ls 4 [(0, .ref a), (1, .int 0)] := hl
  have hself : wl.set q0 (a, .inl (cA 0, n, .inl f)) = wl := List.ext_getElem? (fun i => by
    by_cases hi : q0 = i
    · subst hi
      rw [List.getElem?_set_self hlt, h0]
    · rw [List.getElem?_set_ne hi])
  refine lv_iconst (v := 0) hx hb dJ7_fill_53178_0 (by decide) ?_
  refine lv_istore_n (lv' := [(2, .int 0), (0, .ref a), (1, .int 0)]) hx hb dJ7_fill_53178_1 rfl hl (by decide) rfl (fun ls hl => ?_)
  refine lv_aload_n hx hb dJ7_fill_53178_2 rfl (lv_at hl 1 rfl) ?_
  refine va_alen (v := nI n) hx hb hK hP q0 0 h0 (ty := .int) rfl rfl dJ7_fill_53178_3 ?_
  refine lv_istore_n (lv' := [(3, .int (nI n)), (2, .int 0), (0, .ref a), (1, .int 0)]) hx hb dJ7_fill_53178_4 rfl hl (by decide) rfl (fun ls hl => ?_)
  refine lp_up (σ := Nat → Int32) (fun (k4 : Nat) (g : Nat → Int32) H locs ls => (∀ i, i < k4 ∨ n ≤ i → g i = 0) ∧ va_P D vwCl (wl.set q0 (a, .inl (cA 0, n, .inl g))) H ∧ va_D (va_A wl s.heap.size) (wl.set q0 (a, .inl (cA 0, n, .inl g))) ∧ va_S (va_A wl s.heap.size) s.heap H locs ∧ lv_has ls 4 [(3, .int (nI n)), (2, .int (nI k4)), (0, .ref a), (1, .int 0)]) (fun _ => 0) (fun _ => 0) (hi := n) ?_ ?_ (k := 0) (Nat.zero_le _) (a := f) ⟨fun i hi => hz i (by omega), by rw [hself]; exact hP, by rw [hself]; exact hD, hS, lv_sub hl [0, 1, 2, 3] rfl⟩
  · intro k4 g H locs ls hk hI ih
    obtain ⟨hg, hP, hD, hS, hl⟩ := hI
    have h1 : (wl.set q0 (a, .inl (cA 0, n, .inl g)))[q0]? = some (a, .inl (cA 0, n, .inl g)) := List.getElem?_set_self hlt
    refine lv_iload_n hx hb dJ7_fill_53178_5 rfl (lv_at hl 1 rfl) ?_
    refine lv_iload_n hx hb dJ7_fill_53178_6 rfl (lv_at hl 0 rfl) ?_
    refine lv_icmp_ge (tgt := 20) hx hb dJ7_fill_53178_7 (by decide) (fun cx => absurd cx (nI_ge (a := k4) (b := n) (by omega) (by omega))) (fun _ => ?_)
    refine lv_aload_n hx hb dJ7_fill_53178_10 rfl (lv_at hl 2 rfl) ?_
    refine lv_iload_n hx hb dJ7_fill_53178_11 rfl (lv_at hl 1 rfl) ?_
    refine lv_iload_n hx hb dJ7_fill_53178_12 rfl (lv_at hl 3 rfl) ?_
    refine va_iast (x := 0) hx hb hK hP hD hS q0 0 h1 rfl (vp_in_nI (by omega) (by omega)) dJ7_fill_53178_13 (fun H locs hP hD hS => ?_)
    rw [nI_clamp (n := k4) (by omega), List.set_set] at hP hD
    refine lv_iinc (v := (nI (k4 + 1))) (lv' := [(2, .int (nI (k4 + 1))), (3, .int (nI n)), (0, .ref a), (1, .int 0)]) hx hb dJ7_fill_53178_14 hl (k := 1) rfl (nI_1 k4) (by decide) rfl (fun ls hl => ?_)
    refine lv_goto (tgt := 5) hx hb dJ7_fill_53178_17 (by decide) ?_
    refine ih (upd g k4 0) _ _ _ ⟨fun i hi => ?_, hP, hD, hS, lv_sub hl [1, 0, 2, 3] rfl⟩
    unfold upd
    split
    · rfl
    · rename_i hne
      exact hg i (by omega)
  · intro g H locs ls hI
    obtain ⟨hg, hP, hD, hS, hl⟩ := hI
    have e : g = fun _ => 0 := by
      funext i
      exact hg i (by omega)
    subst e
    refine lv_iload_n hx hb dJ7_fill_53178_5 rfl (lv_at hl 1 rfl) ?_
    refine lv_iload_n hx hb dJ7_fill_53178_6 rfl (lv_at hl 0 rfl) ?_
    refine lv_icmp_ge (tgt := 20) hx hb dJ7_fill_53178_7 (by decide) (fun _ => ?_) (fun cx => absurd (Int32.le_refl _) cx)
    exact W.vret hx hb hr (fun t ht hW => ⟨⟨none, (), rfl, rfl, by rw [ht]; exact hP, hD⟩, hS.F ht⟩) hS.2.2 dJ7_fill_53178_20
noncomputable def sx_prF : sx_Pr := fun fr lo M x c => bif Nat.beq (x.2.2.2.1.getD 1 0) 9 then (match sx_prep sx_pg x c with
  | some (_, vs, S') => bif Nat.ble 2 fr && Nat.ble 90 lo && Nat.ble (sx_sl S') 8 then (match vs with
    | [.inr (.inr (some (.inl a))), .inl (.inl (.ofNat 0, []))] => (match sx_look 12 c.2.2.2.1 a with
      | some (.inr (0, n9, true, u)) => bif Nat.ble n9 1000000 && u.all (fun q => Nat.blt q.1 n9) then some (c.1 + 1, c.2.1, S', sx_upd (.inr (0, n9, true, [])) 12 c.2.2.2.1 a, c.2.2.2.2.1, c.2.2.2.2.2.1, c.2.2.2.2.2.2) else none
      | _ => none)
    | _ => none) else none
  | none => none) else none
theorem sx_prF_ok (B : sx_Bs) : sx_PR1 B sx_prF := by
  intro fr lo M x c0 c1 h hok
  obtain ⟨r, L, S, w, nx, k, n⟩ := c0
  unfold sx_prF at h
  cases hm : Nat.beq (x.2.2.2.1.getD 1 0) 9 with
  | false => simp only [hm, cond_false] at h; cases h
  | true =>
    simp only [hm, cond_true] at h
    split at h
    · rename_i M' vs S' hq
      have hM' := sx_prep_at hq hm
      have hM9 : sx_pg 9 = some sm_J7_fill_53178 := rfl
      rw [hM9] at hM'
      cases hM'
      cases hg : (Nat.ble 2 fr && Nat.ble 90 lo && Nat.ble (sx_sl S') 8) with
      | false => simp only [hg, cond_false] at h; cases h
      | true =>
        simp only [hg, cond_true] at h
        rw [Bool.and_eq_true, Bool.and_eq_true] at hg
        obtain ⟨⟨g1, g2⟩, g3⟩ := hg
        have g1 := Nat.le_of_ble_eq_true g1
        have g2 := Nat.le_of_ble_eq_true g2
        have g3 := Nat.le_of_ble_eq_true g3
        split at h
        · rename_i a
          split at h
          · rename_i n9 u ha
            cases hc : (Nat.ble n9 1000000 && u.all (fun q => Nat.blt q.1 n9)) with
            | false => simp only [hc, cond_false] at h; cases h
            | true =>
              simp only [hc, cond_true] at h
              rw [Bool.and_eq_true] at hc
              obtain ⟨c4, c5⟩ := hc
              have c4 := Nat.le_of_ble_eq_true c4
              cases h
              refine sx_hook (mc := 0) (ms := 0) hok hq (by omega) (show 4 + 19 ≤ lo by omega) g3 (rv := []) (fun l D cA z σ Fr ρ wls xs sz hB hxs hPI => ?_)
              obtain ⟨o2, xs2, rfl, ⟨aa, hρ, ho2⟩, h3⟩ := hxs.ref
              obtain ⟨y1, xs3, rfl, hy1, h4⟩ := h3.int
              have := h4.nil
              subst this
              subst ho2
              have hy1 : y1 = Int32.ofInt (sx_ev σ (sx_c 0)) := hy1
              rw [sx_ev_c] at hy1
              have e1 : y1 = 0 := hy1
              subst e1
              obtain ⟨kk, aa', e9, hk, hρ', ⟨xx, rfl, hx0, hx1⟩⟩ := hPI.1 a _ ha
              rw [hρ] at hρ'
              cases hρ'
              obtain ⟨x0, x1⟩ := xx
              have hx0 : x0 = n9 := hx0
              subst hx0
              match x1, hx1 with
              | .inl g, hx1 =>
                have hRA : sx_RA ρ z σ u true (.int 0) (fun k => .int (g k)) := hx1.2
                have hg0 : ∀ i, x0 ≤ i → g i = 0 := by
                  intro i hi
                  have h9 := hRA i
                  cases hl : sx_lk u i with
                  | none =>
                    rw [hl] at h9
                    exact Value.int.inj (h9 rfl)
                  | some v =>
                    have := List.all_eq_true.mp c5 _ (sx_lk_in hl)
                    have : i < x0 := Nat.le_of_ble_eq_true this
                    omega
                refine (m_fill l (D := D) (z := z) (sz := sz) hk hg0 c4).imp9 (fun a9 s9 o9 t9 hQ => ?_)
                obtain ⟨⟨v, u9, ho, hvv, hB9⟩, hF⟩ := hQ
                subst hvv
                exact ⟨⟨none, (ρ, _), ho, ⟨sx_ge_rf ρ, trivial, hPI.set (c := .inr (0, x0, true, [])) hρ hk ⟨(x0, .inl (fun _ => 0)), rfl, rfl, (show 0 < 4 by decide), fun i _ => rfl⟩⟩, hB9⟩, hF⟩
              | .inr (.inl g), hx1 => exact absurd hx1.1 (show ¬ (0 : Nat) = 4 by decide)
              | .inr (.inr (.inl g)), hx1 => exact hx1.elim
              | .inr (.inr (.inr (.inl g))), hx1 => exact hx1.elim
              | .inr (.inr (.inr (.inr g))), hx1 => exact absurd hx1.1 (show ¬ 5 ≤ 0 by decide)
          · cases h
        · cases h
    · cases h
/-- which hook a row asks for -/
def sx_hkn (x : sx_R) : Nat := bif sx_isinv x.2.1 then (match x.2.2.2.1 with
  | k :: m :: _ => bif Nat.beq k 9 then 0 else m
  | _ => 0) else 0
/-- all hooks -/
noncomputable def sx_pra (B : sx_Bs) : sx_Pr := fun fr lo M x c => bif Nat.beq (sx_hkn x) 1 then sx_prW B fr lo M x c else bif Nat.beq (sx_hkn x) 8 then sx_prV fr lo M x c else bif Nat.beq (sx_hkn x) 228 then sx_prQ fr lo M x c else bif Nat.beq (sx_hkn x) 9 then sx_prF fr lo M x c else sx_prm B fr lo M x c
theorem sx_pra1 (B : sx_Bs) : sx_PR1 B (sx_pra B) := by
  intro fr lo M x c0 c1 h hok
  unfold sx_pra at h
  simp only [cond_eq_ite] at h
  split at h
  · exact sx_prW_ok B fr lo M x c0 _ h hok
  · split at h
    · exact sx_prV_ok B fr lo M x c0 _ h hok
    · split at h
      · exact sx_prQ_ok B fr lo M x c0 _ h hok
      · split at h
        · exact sx_prF_ok B fr lo M x c0 _ h hok
        · exact sx_prm1 B fr lo M x c0 _ h hok
/-- the program, without the methods that are never run -/
noncomputable def sx_p9 : Nat → Option sx_M := sx_pgh [1, 8, 9, 228]
theorem sx_p9_PG : sx_PG sx_p9 sx_tbs := sx_pgh_PG [1, 8, 9, 228]
theorem sx_snd9 (B : sx_Bs) (n : Nat) : sx_SND sx_p9 wsL_law B (sx_pra B) n := sx_sound sx_p9_PG sx_tb_ok sx_good sx_cl (sx_PR_of (sx_pgh_sub [1, 8, 9, 228]) (sx_pra1 B)) n
