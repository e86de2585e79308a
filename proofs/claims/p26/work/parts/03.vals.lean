set_option maxHeartbeats 4000000 in
set_option maxRecDepth 100000 in
theorem m_X11_init_0 (l : Launch) (dC : Nat → ClassId) (dI : Nat → Nat → Nat) (sz : Nat) (zz : Nat → Nat) (h216 : Nat) (v217 : Value) (v218 : Value) (v219 : Value) (v220 : Value) (v221 : Value) (v222 : Value) (v223 : Value) (v224 : Value) (v225 : Value) (v226 : Value)   : Met l yX11_init wsX11_init ({ frames := 1, cells := 0, slots := 0, locals := 12 }) (va_Pc [.ref h216, .int 3] (fun U => U.heap.size = sz ∧ va_P (dC, dI) vwCl [(h216, .inr (13, [.int 0, v217, v218, v219, v220, v221, v222, v223, v224, v225, v226]))] U.heap ∧ va_K (dC, dI) vwCl [] U ∧ va_D (fun _ => True) [(h216, .inr (13, [.int 0, v217, v218, v219, v220, v221, v222, v223, v224, v225, v226]))] ∧ SR zz (va_A [(h216, .inr (13, [.int 0, v217, v218, v219, v220, v221, v222, v223, v224, v225, v226]))] sz) U U.heap)) (va_Qv (fun (_ : Unit) => True) (fun (u : Unit) t => match u with | () => va_P (dC, dI) vwCl [(h216, .inr (13, [.int 3, v217, v218, v219, v220, v221, v222, v223, v224, v225, v226]))] t.heap ∧ va_K (dC, dI) vwCl [] t ∧ va_D (va_A [(h216, .inr (13, [.int 0, v217, v218, v219, v220, v221, v222, v223, v224, v225, v226]))] sz) [(h216, .inr (13, [.int 3, v217, v218, v219, v220, v221, v222, v223, v224, v225, v226]))]) (va_A [(h216, .inr (13, [.int 0, v217, v218, v219, v220, v221, v222, v223, v224, v225, v226]))] sz)) 0 0 (va_A [(h216, .inr (13, [.int 0, v217, v218, v219, v220, v221, v222, v223, v224, v225, v226]))] sz) := by
  refine Met.ofW (cc := cX11_init) (maxL := 2) (ret := none) (by decide) rfl ?_
  intro p e s m args below meth c s₁ B hml hv
  obtain ⟨rfl, hsz, hP, hK, hD0, hZ⟩ := hv
  have hx := B.exec
  have hb := B.bytes
  have hr := B.returns
  have hts := atoms_spec (ws := wsX11_init) B.pre
  have hown : s.vm.findClass RX11 = some m.cls := findClass_of_methodNamed B.named
  have hlocks := B.notSynchronized
  have hin : meth.name = "<init>" := (name_of_methodNamed B.named B.method).1
  have hinX11 : ∀ w ∈ wsX110, w ∈ wsX11_init := fun w h => List.mem_cons_of_mem _ (List.mem_append_right _ (h))
  subst hsz
  have hD := hD0.self (sz := s.heap.size)
  generalize hAe : va_A [(h216, .inr (13, [.int 0, v217, v218, v219, v220, v221, v222, v223, v224, v225, v226]))] s.heap.size = A at hD hZ ⊢
  have hA : ∀ q : Nat, s.heap.size ≤ q → A q := fun q h => by rw [← hAe]; exact Or.inr h
  have hS : va_S A s.heap s.heap [] := va_S.rf
  have hl := lv_entry ([.ref h216, .int 3]) (n := 2) (Nat.le_of_ble_eq_true rfl)
  rw [lg_entry_eq]
  generalize (lg_sl ([.ref h216, .int 3]) ++ List.replicate (2 - (lg_sl ([.ref h216, .int 3])).length) Slot.unset).toArray = ls at hl ⊢
  have hl : lv_has ls 2 [(0, .ref h216), (1, .int 3)] := hl
  refine lv_aload_n hx hb dX11_init_0 rfl (lv_at hl 0 rfl) ?_
  refine W.objInit hx hb hown (hts (.methodLink RX11 1 objectInit) (by decide +kernel)) (hts (.instanceMethod objectInit) (by decide +kernel)) (hts (.code objectInit ⟨#[0xb1]⟩ 1 none) (by decide +kernel)) rfl (by rw [hml]; exact hl.1) rfl dX11_init_1 (Nat.le_of_ble_eq_true rfl) (Nat.le_of_ble_eq_true rfl) ?_
  refine W.eq (g2 := F0 m 4 ls []) rfl ?_
  refine lv_aload_n hx hb dX11_init_4 rfl (lv_at hl 0 rfl) ?_
  refine lv_iload_n hx hb dX11_init_5 rfl (lv_at hl 1 rfl) ?_
  refine va_putF (D := (dC, dI)) (ci := 13) (v := .int 3) (ty := .int) (C := RX11) (T := TX11) (N := 11) hx hb hts hinX11 tyX11 tyX11_ok nmX11 hown hK hP hD hS 0 rfl rfl 0 (by decide) (hts (.fieldLink RX11 7 "GoalHouse$Val" "kind" "I") (by decide +kernel)) (fun _ h9 => h9) rfl hin rfl (by decide +kernel) rfl rfl (Nat.le_of_ble_eq_true rfl) dX11_init_6 (fun H locs hP hD hS => ?_)
  have hP : va_P (dC, dI) vwCl [(h216, .inr (13, [.int 3, v217, v218, v219, v220, v221, v222, v223, v224, v225, v226]))] H := hP
  have hD : va_D A [(h216, .inr (13, [.int 3, v217, v218, v219, v220, v221, v222, v223, v224, v225, v226]))] := hD
  have hP9 := hP.sub (ws' := [(h216, .inr (13, [.int 3, v217, v218, v219, v220, v221, v222, v223, v224, v225, v226]))]) [0] rfl
  have hD9 := hD.sub (ws' := [(h216, .inr (13, [.int 3, v217, v218, v219, v220, v221, v222, v223, v224, v225, v226]))]) [0] (by decide) rfl
  have hK9 := hK.sub (tys' := []) [] rfl
  exact W.vret hx hb hr (fun t ht hW => ⟨⟨(), rfl, trivial, by rw [ht]; exact hP9, va_K.moved hW.alike hK9, hD9⟩, hS.F ht⟩) hS.2.2 dX11_init_9
set_option maxHeartbeats 4000000 in
set_option maxRecDepth 100000 in
theorem m_X3_emptySet_0 (l : Launch) (dC : Nat → ClassId) (dI : Nat → Nat → Nat) (sz : Nat) (zz : Nat → Nat)    : Met l yX3_emptySet wsX3_emptySet ({ frames := 2, cells := 2, slots := 15, locals := 33 }) (va_Pc [] (fun U => U.heap.size = sz ∧ va_P (dC, dI) vwCl [] U.heap ∧ va_K (dC, dI) vwCl [] U ∧ va_D (fun _ => True) [] ∧ SR zz (va_A [] sz) U U.heap)) (va_Qr (fun (_ : Nat × ClassId) => True) (fun (u : Nat × ClassId) (q215 : Nat) t => match u with | (q227, cA228) => va_P (dC, dI) vwCl [(q215, .inr (13, [.int 3, .long 0, .null, .null, .int 0, .int 0, .ref q227, .null, .null, .null, .null])), (q227, .inl (cA228, 4, .inr (.inl (fun _ => 0))))] t.heap ∧ va_K (dC, dI) vwCl [(cA228, .long)] t ∧ va_D (va_A [] sz) [(q215, .inr (13, [.int 3, .long 0, .null, .null, .int 0, .int 0, .ref q227, .null, .null, .null, .null])), (q227, .inl (cA228, 4, .inr (.inl (fun _ => 0))))]) (va_A [] sz)) 2 15 (va_A [] sz) := by
  refine Met.ofW (cc := cX3_emptySet) (maxL := 1) (ret := (some (.object "GoalHouse$Val"))) (by decide) rfl ?_
  intro p e s m args below meth c s₁ B hml hv
  obtain ⟨rfl, hsz, hP, hK, hD0, hZ⟩ := hv
  have hx := B.exec
  have hb := B.bytes
  have hr := B.returns
  have hts := atoms_spec (ws := wsX3_emptySet) B.pre
  have hown : s.vm.findClass RX3 = some m.cls := findClass_of_methodNamed B.named
  have hlocks := B.notSynchronized
  have hinX11 : ∀ w ∈ wsX110, w ∈ wsX3_emptySet := fun w h => List.mem_cons_of_mem _ (List.mem_append_right _ (h))
  subst hsz
  have hD := hD0.self (sz := s.heap.size)
  generalize hAe : va_A [] s.heap.size = A at hD hZ ⊢
  have hA : ∀ q : Nat, s.heap.size ≤ q → A q := fun q h => by rw [← hAe]; exact Or.inr h
  have hS : va_S A s.heap s.heap [] := va_S.rf
  have hl := lv_entry ([]) (n := 1) (Nat.le_of_ble_eq_true rfl)
  rw [lg_entry_eq]
  generalize (lg_sl ([]) ++ List.replicate (1 - (lg_sl ([])).length) Slot.unset).toArray = ls at hl ⊢
  have hl : lv_has ls 1 [] := hl
  refine va_new (ci := 13) (fs := [.int 0, .long 0, .null, .null, .int 0, .int 0, .null, .null, .null, .null, .null]) (C := RX11) (T := TX11) (N := 11) hx hb hts hinX11 tyX11 tyX11_ok hown (hts (.classLink RX3 9 RX11) (by decide +kernel)) (hts (.instantiable RX11 11) (by decide +kernel)) (hts (.initialized RX11) (by decide +kernel)) hK hP hD hS hA rfl (fun j hj => by rcases (show j = 0 ∨ j = 1 ∨ j = 2 ∨ j = 3 ∨ j = 4 ∨ j = 5 ∨ j = 6 ∨ j = 7 ∨ j = 8 ∨ j = 9 ∨ j = 10 by omega) with rfl | rfl | rfl | rfl | rfl | rfl | rfl | rfl | rfl | rfl | rfl <;> rfl) (Nat.le_of_ble_eq_true rfl) (Nat.le_of_ble_eq_true rfl) dX3_emptySet_0 (fun q215 H hP hD hS => ?_)
  have hP : va_P (dC, dI) vwCl [(q215, .inr (13, [.int 0, .long 0, .null, .null, .int 0, .int 0, .null, .null, .null, .null, .null]))] H := hP
  have hD : va_D A [(q215, .inr (13, [.int 0, .long 0, .null, .null, .int 0, .int 0, .null, .null, .null, .null, .null]))] := hD
  refine W.widen (k := 1) (n := 11) (Nat.le_of_ble_eq_true rfl) (Nat.le_of_ble_eq_true rfl) ?_
  refine lv_dup hx hb dX3_emptySet_3 rfl ?_
  refine lv_iconst (v := 3) hx hb dX3_emptySet_4 (by decide) ?_
  have hPc := hP.sub (ws' := [(q215, .inr (13, [.int 0, .long 0, .null, .null, .int 0, .int 0, .null, .null, .null, .null, .null]))]) [0] rfl
  have hDc := hD.sub (ws' := [(q215, .inr (13, [.int 0, .long 0, .null, .null, .int 0, .int 0, .null, .null, .null, .null, .null]))]) [0] (by decide) rfl
  have hKc := hK.sub (tys' := []) [] rfl
  have hFc := va_free (wc := [(q215, .inr (13, [.int 0, .long 0, .null, .null, .int 0, .int 0, .null, .null, .null, .null, .null]))]) hD hS hA [0] rfl
  refine va_callv (va_runI (As := [.int 3]) (rest := [.ref q215]) ⟨hx, hb, hml, hown, hts⟩ (m_X11_init_0 l dC dI H.size zz q215 (.long 0) .null .null (.int 0) (.int 0) .null .null .null .null .null) (cwI 1 hts gX3_emptySet_X11_init rfl rfl rfl (hts (.initialized RX11) (by decide +kernel)) (hts (.methodLink RX3 11 yX11_init) (by decide +kernel)) (hts (.instanceMethod yX11_init) (by decide +kernel)) rfl (by decide +kernel) ⟨Nat.le_of_ble_eq_true rfl, Nat.le_of_ble_eq_true rfl⟩) ⟨(fun a U g mk q => by obtain ⟨q0, q1, qP, qK, qD, qZ⟩ := q; exact ⟨q0, q1, qP, va_K.moved (u := U) (U := U.calling g mk a) (Vm.Alike.refl U.vm) qK, qD, SR.moved (u := U) (U := U.calling g mk a) (State.WarmedH.refl U) qZ⟩), (fun U hU hW => ⟨rfl, by rw [hU], by rw [hU]; exact hPc, va_K.moved hW.alike hKc, hDc.weaken (fun _ _ _ _ => trivial), by rw [hU]; exact SR.moved hW (SR.narrow (SR.kept hZ hS.2.1) hFc)⟩)⟩ rfl rfl hl.1 rfl (lv_room (Nat.le_of_ble_eq_true rfl)) dX3_emptySet_5 ⟨(Nat.le_of_ble_eq_true rfl), (Nat.le_of_ble_eq_true rfl)⟩) hS (fun q _ h => hFc q h) hFc (fun u t H1 locs ht hvm hw hB hz1 hk1 hS => ?_)
  obtain ⟨hP1, hK1, hD1⟩ := hB
  rw [ht] at hP1
  have hK1 := va_K.moved hvm.symm hK1
  obtain ⟨hP, hD⟩ := va_join (wr := []) (w1 := [(q215, .inr (13, [.int 3, .long 0, .null, .null, .int 0, .int 0, .null, .null, .null, .null, .null]))]) hP hD [0] [] rfl rfl (by decide) (by decide) hk1 hFc hP1 hD1
  generalize H1 = H at hP hS ⊢
  have hP : va_P (dC, dI) vwCl [(q215, .inr (13, [.int 3, .long 0, .null, .null, .int 0, .int 0, .null, .null, .null, .null, .null]))] H := hP
  have hD : va_D A [(q215, .inr (13, [.int 3, .long 0, .null, .null, .int 0, .int 0, .null, .null, .null, .null, .null]))] := hD
  refine W.widen (k := 1) (n := 11) (Nat.le_of_ble_eq_true rfl) (Nat.le_of_ble_eq_true rfl) ?_
  refine lv_astore_n (lv' := [(0, .ref q215)]) hx hb dX3_emptySet_8 rfl hl (by decide) rfl (fun ls hl => ?_)
  refine lv_aload_n hx hb dX3_emptySet_9 rfl (lv_at hl 0 rfl) ?_
  refine lv_iconst (v := 4) hx hb dX3_emptySet_10 (by decide) ?_
  refine va_newa (atype := .long) (a0 := (4, .inr (.inl (fun _ => 0)))) (N' := 4) hx hb (hts (.arrayClass .long) (by decide +kernel)) rfl hK hP hD hS hA (fun _ => rfl) (by decide) (by decide) (Nat.le_of_ble_eq_true rfl) (Nat.le_of_ble_eq_true rfl) (Nat.le_of_ble_eq_true rfl) dX3_emptySet_11 (fun q227 cA228 H hK hP hD hS => ?_)
  have hK : va_K (dC, dI) vwCl [(cA228, .long)] s := hK
  have hP : va_P (dC, dI) vwCl [(q215, .inr (13, [.int 3, .long 0, .null, .null, .int 0, .int 0, .null, .null, .null, .null, .null])), (q227, .inl (cA228, 4, .inr (.inl (fun _ => 0))))] H := hP
  have hD : va_D A [(q215, .inr (13, [.int 3, .long 0, .null, .null, .int 0, .int 0, .null, .null, .null, .null, .null])), (q227, .inl (cA228, 4, .inr (.inl (fun _ => 0))))] := hD
  refine W.widen (k := 2) (n := 15) (Nat.le_of_ble_eq_true rfl) (Nat.le_of_ble_eq_true rfl) ?_
  refine va_put (D := (dC, dI)) (ci := 13) (v := .ref q227) (ty := (.array .long)) (C := RX11) (T := TX11) (N := 11) hx hb hts hinX11 tyX11 tyX11_ok nmX11 hown hK hP hD hS 0 rfl rfl 6 (by decide) (hts (.fieldLink RX3 99 "GoalHouse$Val" "bits" "[J") (by decide +kernel)) (fun _ h9 => h9) rfl (by decide +kernel) rfl rfl (Nat.le_of_ble_eq_true rfl) dX3_emptySet_13 (fun H locs hP hD hS => ?_)
  have hP : va_P (dC, dI) vwCl [(q215, .inr (13, [.int 3, .long 0, .null, .null, .int 0, .int 0, .ref q227, .null, .null, .null, .null])), (q227, .inl (cA228, 4, .inr (.inl (fun _ => 0))))] H := hP
  have hD : va_D A [(q215, .inr (13, [.int 3, .long 0, .null, .null, .int 0, .int 0, .ref q227, .null, .null, .null, .null])), (q227, .inl (cA228, 4, .inr (.inl (fun _ => 0))))] := hD
  refine lv_aload_n hx hb dX3_emptySet_16 rfl (lv_at hl 0 rfl) ?_
  have hP9 := hP.sub (ws' := [(q215, .inr (13, [.int 3, .long 0, .null, .null, .int 0, .int 0, .ref q227, .null, .null, .null, .null])), (q227, .inl (cA228, 4, .inr (.inl (fun _ => 0))))]) [0, 1] rfl
  have hD9 := hD.sub (ws' := [(q215, .inr (13, [.int 3, .long 0, .null, .null, .int 0, .int 0, .ref q227, .null, .null, .null, .null])), (q227, .inl (cA228, 4, .inr (.inl (fun _ => 0))))]) [0, 1] (by decide) rfl
  have hK9 := hK.sub (tys' := [(cA228, .long)]) [0] rfl
  exact W.aret (v := .ref q215) hx hb hr (Or.inl ⟨_, rfl⟩) (Or.inr ⟨_, rfl⟩) (fun t ht hW => ⟨⟨(q227, cA228), q215, rfl, trivial, by rw [ht]; exact hP9, va_K.moved hW.alike hK9, hD9⟩, hS.F ht⟩) hS.2.2 dX3_emptySet_17
set_option maxHeartbeats 4000000 in
set_option maxRecDepth 100000 in
theorem m_X11_put_0 (l : Launch) (dC : Nat → ClassId) (dI : Nat → Nat → Nat) (sz : Nat) (zz : Nat → Nat) (h448 : Nat) (k449 : Nat) (v451 : Value) (v452 : Value) (v453 : Value) (v454 : Value) (v455 : Value) (v456 : Value) (h450 : Nat) (v457 : Value) (v458 : Value) (v459 : Value) (v460 : Value) (cA461 : ClassId) (f462 : Nat → Int64)  (hi_k449 : k449 ≤ 2147483647) (c1 : 0 ≤ (k449 / 64)) (c2 : (k449 / 64) < 2147483648) (c3 : (k449 / 64) < 4) (c4 : k449 / 64 < 4) (c5 : k449 / 64 < 2147483648) : Met l yX11_put wsX11_put ({ frames := 0, cells := 0, slots := 0, locals := 0 }) (va_Pc [.ref h448, .int (nI k449)] (fun U => U.heap.size = sz ∧ va_P (dC, dI) vwCl [(h448, .inr (13, [v451, v452, v453, v454, v455, v456, .ref h450, v457, v458, v459, v460])), (h450, .inl (cA461, 4, .inr (.inl f462)))] U.heap ∧ va_K (dC, dI) vwCl [(cA461, .long)] U ∧ va_D (fun _ => True) [(h448, .inr (13, [v451, v452, v453, v454, v455, v456, .ref h450, v457, v458, v459, v460])), (h450, .inl (cA461, 4, .inr (.inl f462)))] ∧ SR zz (va_A [(h448, .inr (13, [v451, v452, v453, v454, v455, v456, .ref h450, v457, v458, v459, v460])), (h450, .inl (cA461, 4, .inr (.inl f462)))] sz) U U.heap)) (va_Qv (fun (_ : Unit) => True) (fun (u : Unit) t => match u with | () => va_P (dC, dI) vwCl [(h448, .inr (13, [v451, v452, v453, v454, v455, v456, .ref h450, v457, v458, v459, v460])), (h450, .inl (cA461, 4, .inr (.inl (vp_updL f462 (k449 / 64) ((f462 (k449 / 64)) ||| ((1 : Int64) <<< ((nI (k449 % 64)).toInt64 &&& 63)))))))] t.heap ∧ va_K (dC, dI) vwCl [(cA461, .long)] t ∧ va_D (va_A [(h448, .inr (13, [v451, v452, v453, v454, v455, v456, .ref h450, v457, v458, v459, v460])), (h450, .inl (cA461, 4, .inr (.inl f462)))] sz) [(h448, .inr (13, [v451, v452, v453, v454, v455, v456, .ref h450, v457, v458, v459, v460])), (h450, .inl (cA461, 4, .inr (.inl (vp_updL f462 (k449 / 64) ((f462 (k449 / 64)) ||| ((1 : Int64) <<< ((nI (k449 % 64)).toInt64 &&& 63)))))))]) (va_A [(h448, .inr (13, [v451, v452, v453, v454, v455, v456, .ref h450, v457, v458, v459, v460])), (h450, .inl (cA461, 4, .inr (.inl f462)))] sz)) 0 0 (va_A [(h448, .inr (13, [v451, v452, v453, v454, v455, v456, .ref h450, v457, v458, v459, v460])), (h450, .inl (cA461, 4, .inr (.inl f462)))] sz) := by
  refine Met.ofW (cc := cX11_put) (maxL := 3) (ret := none) (by decide) rfl ?_
  intro p e s m args below meth c s₁ B hml hv
  obtain ⟨rfl, hsz, hP, hK, hD0, hZ⟩ := hv
  have hx := B.exec
  have hb := B.bytes
  have hr := B.returns
  have hts := atoms_spec (ws := wsX11_put) B.pre
  have hown : s.vm.findClass RX11 = some m.cls := findClass_of_methodNamed B.named
  have hlocks := B.notSynchronized
  have hinX11 : ∀ w ∈ wsX110, w ∈ wsX11_put := fun w h => List.mem_cons_of_mem _ (List.mem_append_right _ (h))
  subst hsz
  have hD := hD0.self (sz := s.heap.size)
  generalize hAe : va_A [(h448, .inr (13, [v451, v452, v453, v454, v455, v456, .ref h450, v457, v458, v459, v460])), (h450, .inl (cA461, 4, .inr (.inl f462)))] s.heap.size = A at hD hZ ⊢
  have hA : ∀ q : Nat, s.heap.size ≤ q → A q := fun q h => by rw [← hAe]; exact Or.inr h
  have hS : va_S A s.heap s.heap [] := va_S.rf
  have hl := lv_entry ([.ref h448, .int (nI k449)]) (n := 3) (Nat.le_of_ble_eq_true rfl)
  rw [lg_entry_eq]
  generalize (lg_sl ([.ref h448, .int (nI k449)]) ++ List.replicate (3 - (lg_sl ([.ref h448, .int (nI k449)])).length) Slot.unset).toArray = ls at hl ⊢
  have hl : lv_has ls 3 [(0, .ref h448), (1, .int (nI k449))] := hl
  refine lv_iload_n hx hb dX11_put_0 rfl (lv_at hl 1 rfl) ?_
  refine lv_bipush (v := 6) hx hb dX11_put_1 (by decide) ?_
  refine lv_ishr hx hb dX11_put_3 ?_
  refine lv_topi (fun z463 ez463 => ?_)
  have ez463 : z463 = nI (k449 / 64) := ez463.trans (pk_shrN (by omega) (6 &&& 31) 6 (by decide))
  subst ez463
  refine lv_istore_n (lv' := [(2, .int (nI (k449 / 64))), (0, .ref h448), (1, .int (nI k449))]) hx hb dX11_put_4 rfl hl (by decide) rfl (fun ls hl => ?_)
  refine lv_aload_n hx hb dX11_put_5 rfl (lv_at hl 1 rfl) ?_
  refine va_get (D := (dC, dI)) (ci := 13) (v := .ref h450) (C := RX11) (T := TX11) (N := 11) hx hb hts hinX11 hown hK hP 0 rfl rfl 6 (by decide) (hts (.fieldLink RX11 34 "GoalHouse$Val" "bits" "[J") (by decide +kernel)) (fun _ h9 => h9) rfl dX11_put_6 ?_
  refine lv_ifnull hx hb dX11_put_9 ?_
  refine lv_iload_n hx hb dX11_put_12 rfl (lv_at hl 0 rfl) ?_
  refine lv_if_lt (tgt := 40) hx hb dX11_put_13 (by decide) (fun cx => absurd cx (nI_nlt (a := (k449 / 64)) (b := 0) c1 c2)) (fun _ => ?_)
  refine lv_iload_n hx hb dX11_put_16 rfl (lv_at hl 0 rfl) ?_
  refine lv_aload_n hx hb dX11_put_17 rfl (lv_at hl 1 rfl) ?_
  refine va_get (D := (dC, dI)) (ci := 13) (v := .ref h450) (C := RX11) (T := TX11) (N := 11) hx hb hts hinX11 hown hK hP 0 rfl rfl 6 (by decide) (hts (.fieldLink RX11 34 "GoalHouse$Val" "bits" "[J") (by decide +kernel)) (fun _ h9 => h9) rfl dX11_put_18 ?_
  refine va_alen (v := 4) hx hb hK hP 1 0 rfl rfl rfl dX11_put_21 ?_
  refine lv_icmp_ge (tgt := 40) hx hb dX11_put_22 (by decide) (fun cx => absurd cx (nI_ge (a := (k449 / 64)) (b := 4) c3 (by decide))) (fun _ => ?_)
  refine lv_aload_n hx hb dX11_put_25 rfl (lv_at hl 1 rfl) ?_
  refine va_get (D := (dC, dI)) (ci := 13) (v := .ref h450) (C := RX11) (T := TX11) (N := 11) hx hb hts hinX11 hown hK hP 0 rfl rfl 6 (by decide) (hts (.fieldLink RX11 34 "GoalHouse$Val" "bits" "[J") (by decide +kernel)) (fun _ h9 => h9) rfl dX11_put_26 ?_
  refine lv_iload_n hx hb dX11_put_29 rfl (lv_at hl 0 rfl) ?_
  refine lv_dup2_11 hx hb dX11_put_30 rfl rfl ?_
  refine va_lald hx hb hK hP 1 0 rfl rfl (vp_in_nI c4 (by decide)) dX11_put_31 ?_
  refine lv_topl (fun z464 ez464 => ?_)
  have ez464 : z464 = f462 (k449 / 64) := ez464.trans (by rw [nI_clamp (n := (k449 / 64)) c5])
  subst ez464
  refine lv_lconst (v := 1) hx hb dX11_put_32 (by decide) ?_
  refine lv_iload_n hx hb dX11_put_33 rfl (lv_at hl 2 rfl) ?_
  refine lv_bipush (v := 63) hx hb dX11_put_34 (by decide) ?_
  refine lv_iand hx hb dX11_put_36 ?_
  refine lv_topi (fun z465 ez465 => ?_)
  have ez465 : z465 = nI (k449 % 64) := ez465.trans (pk_andN (m := 63) (by omega) 6 (by decide))
  subst ez465
  refine lv_lshl (v := ((1 : Int64) <<< ((nI (k449 % 64)).toInt64 &&& 63))) hx hb dX11_put_37 rfl ?_
  refine lv_lor hx hb dX11_put_38 ?_
  refine va_last (x := ((f462 (k449 / 64)) ||| ((1 : Int64) <<< ((nI (k449 % 64)).toInt64 &&& 63)))) hx hb hK hP hD hS 1 0 rfl rfl (vp_in_nI c4 (by decide)) dX11_put_39 (fun H locs hP hD hS => ?_)
  rw [nI_clamp (n := (k449 / 64)) c5] at hP hD
  have hP : va_P (dC, dI) vwCl [(h448, .inr (13, [v451, v452, v453, v454, v455, v456, .ref h450, v457, v458, v459, v460])), (h450, .inl (cA461, 4, .inr (.inl (vp_updL f462 (k449 / 64) ((f462 (k449 / 64)) ||| ((1 : Int64) <<< ((nI (k449 % 64)).toInt64 &&& 63)))))))] H := hP
  have hD : va_D A [(h448, .inr (13, [v451, v452, v453, v454, v455, v456, .ref h450, v457, v458, v459, v460])), (h450, .inl (cA461, 4, .inr (.inl (vp_updL f462 (k449 / 64) ((f462 (k449 / 64)) ||| ((1 : Int64) <<< ((nI (k449 % 64)).toInt64 &&& 63)))))))] := hD
  have hP9 := hP.sub (ws' := [(h448, .inr (13, [v451, v452, v453, v454, v455, v456, .ref h450, v457, v458, v459, v460])), (h450, .inl (cA461, 4, .inr (.inl (vp_updL f462 (k449 / 64) ((f462 (k449 / 64)) ||| ((1 : Int64) <<< ((nI (k449 % 64)).toInt64 &&& 63)))))))]) [0, 1] rfl
  have hD9 := hD.sub (ws' := [(h448, .inr (13, [v451, v452, v453, v454, v455, v456, .ref h450, v457, v458, v459, v460])), (h450, .inl (cA461, 4, .inr (.inl (vp_updL f462 (k449 / 64) ((f462 (k449 / 64)) ||| ((1 : Int64) <<< ((nI (k449 % 64)).toInt64 &&& 63)))))))]) [0, 1] (by decide) rfl
  have hK9 := hK.sub (tys' := [(cA461, .long)]) [0] rfl
  exact W.vret hx hb hr (fun t ht hW => ⟨⟨(), rfl, trivial, by rw [ht]; exact hP9, va_K.moved hW.alike hK9, hD9⟩, hS.F ht⟩) hS.2.2 dX11_put_40
set_option maxHeartbeats 4000000 in
set_option maxRecDepth 100000 in
theorem m_X3_range_0 (l : Launch) (dC : Nat → ClassId) (dI : Nat → Nat → Nat) (sz : Nat) (zz : Nat → Nat)    : Met l yX3_range wsX3_range ({ frames := 3, cells := 2, slots := 15, locals := 53 }) (va_Pc [.int 65, .int 90, .int 97, .int 122] (fun U => U.heap.size = sz ∧ va_P (dC, dI) vwCl [] U.heap ∧ va_K (dC, dI) vwCl [] U ∧ va_D (fun _ => True) [] ∧ SR zz (va_A [] sz) U U.heap)) (va_Qr (fun (_ : Nat × ClassId × (Nat → Int64)) => True) (fun (u : Nat × ClassId × (Nat → Int64)) (q231 : Nat) t => match u with | (q229, cA230, g441) => va_P (dC, dI) vwCl [(q231, .inr (13, [.int 3, .long 0, .null, .null, .int 0, .int 0, .ref q229, .null, .null, .null, .null])), (q229, .inl (cA230, 4, .inr (.inl g441)))] t.heap ∧ va_K (dC, dI) vwCl [(cA230, .long)] t ∧ va_D (va_A [] sz) [(q231, .inr (13, [.int 3, .long 0, .null, .null, .int 0, .int 0, .ref q229, .null, .null, .null, .null])), (q229, .inl (cA230, 4, .inr (.inl g441)))]) (va_A [] sz)) 2 15 (va_A [] sz) := by
  refine Met.ofW (cc := cX3_range) (maxL := 6) (ret := (some (.object "GoalHouse$Val"))) (by decide) rfl ?_
  intro p e s m args below meth c s₁ B hml hv
  obtain ⟨rfl, hsz, hP, hK, hD0, hZ⟩ := hv
  have hx := B.exec
  have hb := B.bytes
  have hr := B.returns
  have hts := atoms_spec (ws := wsX3_range) B.pre
  have hown : s.vm.findClass RX3 = some m.cls := findClass_of_methodNamed B.named
  have hlocks := B.notSynchronized
  subst hsz
  have hD := hD0.self (sz := s.heap.size)
  generalize hAe : va_A [] s.heap.size = A at hD hZ ⊢
  have hA : ∀ q : Nat, s.heap.size ≤ q → A q := fun q h => by rw [← hAe]; exact Or.inr h
  have hS : va_S A s.heap s.heap [] := va_S.rf
  have hl := lv_entry ([.int 65, .int 90, .int 97, .int 122]) (n := 6) (Nat.le_of_ble_eq_true rfl)
  rw [lg_entry_eq]
  generalize (lg_sl ([.int 65, .int 90, .int 97, .int 122]) ++ List.replicate (6 - (lg_sl ([.int 65, .int 90, .int 97, .int 122])).length) Slot.unset).toArray = ls at hl ⊢
  have hl : lv_has ls 6 [(0, .int 65), (1, .int 90), (2, .int 97), (3, .int 122)] := hl
  have hPc := hP.sub (ws' := []) [] rfl
  have hDc := hD.sub (ws' := []) [] (by decide) rfl
  have hKc := hK.sub (tys' := []) [] rfl
  have hFc := va_free (wc := []) hD hS hA [] rfl
  refine va_callr (va_runS (As := []) (rest := []) ⟨hx, hb, hml, hown, hts⟩ (m_X3_emptySet_0 l dC dI s.heap.size zz ) (va_cwS 0 hts gX3_range_X3_emptySet rfl rfl rfl (by decide +kernel) ⟨Nat.le_of_ble_eq_true rfl, Nat.le_of_ble_eq_true rfl⟩) ⟨(fun a U g mk q => by obtain ⟨q0, q1, qP, qK, qD, qZ⟩ := q; exact ⟨q0, q1, qP, va_K.moved (u := U) (U := U.calling g mk a) (Vm.Alike.refl U.vm) qK, qD, SR.moved (u := U) (U := U.calling g mk a) (State.WarmedH.refl U) qZ⟩), (fun U hU hW => ⟨rfl, by rw [hU], by rw [hU]; exact hPc, va_K.moved hW.alike hKc, hDc.weaken (fun _ _ _ _ => trivial), by rw [hU]; exact SR.moved hW (SR.narrow (SR.kept hZ hS.2.1) hFc)⟩)⟩ rfl rfl hl.1 rfl (lv_room (Nat.le_of_ble_eq_true rfl)) dX3_range_0 ⟨(Nat.le_of_ble_eq_true rfl), (Nat.le_of_ble_eq_true rfl)⟩) hS (fun q _ h => hFc q h) hFc (fun u ra t H1 locs ht hvm hw hB hz1 hk1 hS => ?_)
  obtain ⟨q229, cA230⟩ := u
  obtain ⟨q231, rfl⟩ : ∃ z, z = ra := ⟨_, rfl⟩
  obtain ⟨hP1, hK1, hD1⟩ := hB
  rw [ht] at hP1
  have hK1 := va_K.moved hvm.symm hK1
  obtain ⟨hP, hD⟩ := va_join (wr := []) (w1 := [(q231, .inr (13, [.int 3, .long 0, .null, .null, .int 0, .int 0, .ref q229, .null, .null, .null, .null])), (q229, .inl (cA230, 4, .inr (.inl (fun _ => 0))))]) hP hD [] [] rfl rfl (by decide) (by decide) hk1 hFc hP1 hD1
  have hK := hK.app hK1
  have hK : va_K (dC, dI) vwCl [(cA230, .long)] s := hK
  generalize H1 = H at hP hS ⊢
  have hP : va_P (dC, dI) vwCl [(q231, .inr (13, [.int 3, .long 0, .null, .null, .int 0, .int 0, .ref q229, .null, .null, .null, .null])), (q229, .inl (cA230, 4, .inr (.inl (fun _ => 0))))] H := hP
  have hD : va_D A [(q231, .inr (13, [.int 3, .long 0, .null, .null, .int 0, .int 0, .ref q229, .null, .null, .null, .null])), (q229, .inl (cA230, 4, .inr (.inl (fun _ => 0))))] := hD
  refine W.widen (k := 2) (n := 15) (Nat.le_of_ble_eq_true rfl) (Nat.le_of_ble_eq_true rfl) ?_
  refine lv_astore (lv' := [(4, .ref q231), (0, .int 65), (1, .int 90), (2, .int 97), (3, .int 122)]) hx hb dX3_range_3 hl (by decide) rfl (fun ls hl => ?_)
  refine lv_iconst (v := 0) hx hb dX3_range_5 (by decide) ?_
  refine lv_istore (lv' := [(5, .int 0), (4, .ref q231), (0, .int 65), (1, .int 90), (2, .int 97), (3, .int 122)]) hx hb dX3_range_6 hl (by decide) rfl (fun ls hl => ?_)
  refine lp_up (σ := (Nat → Int64)) (fun (k440 : Nat) (a : (Nat → Int64)) H locs ls => match a with | g441 => va_P (dC, dI) vwCl [(q231, .inr (13, [.int 3, .long 0, .null, .null, .int 0, .int 0, .ref q229, .null, .null, .null, .null])), (q229, .inl (cA230, 4, .inr (.inl g441)))] H ∧ va_D A [(q231, .inr (13, [.int 3, .long 0, .null, .null, .int 0, .int 0, .ref q229, .null, .null, .null, .null])), (q229, .inl (cA230, 4, .inr (.inl g441)))] ∧ va_S A s.heap H locs ∧ lv_has ls 6 [(5, .int (nI k440)), (4, .ref q231), (0, .int 65), (1, .int 90), (2, .int 97), (3, .int 122)]) (fun _ => 2) (fun _ => 15) (hi := 256) ?_ ?_ (k := 0) (by decide) (a := (fun _ => 0)) ⟨hP, hD, hS, lv_sub hl [0, 1, 2, 3, 4, 5] rfl⟩
  · intro k440 a H locs ls hk hI ih
    obtain ⟨g441, rfl⟩ : ∃ z, z = a := ⟨_, rfl⟩
    obtain ⟨hP, hD, hS, hl⟩ := hI
    refine W.widen (k := 2 + 0) (n := 15 + 0) (by omega) (by omega) ?_
    refine lv_iload hx hb dX3_range_8 (lv_at hl 0 rfl) ?_
    refine lv_sipush (v := 256) hx hb dX3_range_10 (by decide) ?_
    refine lv_icmp_ge (tgt := 53) hx hb dX3_range_13 (by decide) (fun cx => absurd cx (nI_ge (a := k440) (b := 256) (by omega) (by decide))) (fun _ => ?_)
    refine lv_iload hx hb dX3_range_16 (lv_at hl 0 rfl) ?_
    refine lv_iload_n hx hb dX3_range_18 rfl (lv_at hl 2 rfl) ?_
    refine lv_icmp_lt (tgt := 28) hx hb dX3_range_19 (by decide) (fun cs442 => ?_) (fun cs442 => ?_)
    · refine lv_iload hx hb dX3_range_28 (lv_at hl 0 rfl) ?_
      refine lv_iload_n hx hb dX3_range_30 rfl (lv_at hl 4 rfl) ?_
      refine lv_icmp_lt (tgt := 47) hx hb dX3_range_31 (by decide) (fun cs443 => ?_) (fun cs443 => ?_)
      · refine lv_iinc (v := (nI (k440 + 1))) (lv' := [(5, .int (nI (k440 + 1))), (4, .ref q231), (0, .int 65), (1, .int 90), (2, .int 97), (3, .int 122)]) hx hb dX3_range_47 hl (k := 0) rfl (nI_1 k440) (by decide) rfl (fun ls hl => ?_)
        refine lv_goto (tgt := 8) hx hb dX3_range_50 (by decide) ?_
        refine W.widen (k := 2 + 0) (n := 15 + 0) (by omega) (by omega) ?_
        exact ih g441 _ _ _ ⟨hP.sub [0, 1] rfl, hD.sub [0, 1] (by decide) rfl, hS, lv_sub hl [0, 1, 2, 3, 4, 5] rfl⟩
      · refine lv_iload hx hb dX3_range_34 (lv_at hl 0 rfl) ?_
        refine lv_iload_n hx hb dX3_range_36 rfl (lv_at hl 5 rfl) ?_
        refine lv_icmp_gt (tgt := 47) hx hb dX3_range_37 (by decide) (fun cs444 => ?_) (fun cs444 => ?_)
        · refine lv_iinc (v := (nI (k440 + 1))) (lv' := [(5, .int (nI (k440 + 1))), (4, .ref q231), (0, .int 65), (1, .int 90), (2, .int 97), (3, .int 122)]) hx hb dX3_range_47 hl (k := 0) rfl (nI_1 k440) (by decide) rfl (fun ls hl => ?_)
          refine lv_goto (tgt := 8) hx hb dX3_range_50 (by decide) ?_
          refine W.widen (k := 2 + 0) (n := 15 + 0) (by omega) (by omega) ?_
          exact ih g441 _ _ _ ⟨hP.sub [0, 1] rfl, hD.sub [0, 1] (by decide) rfl, hS, lv_sub hl [0, 1, 2, 3, 4, 5] rfl⟩
        · refine lv_aload hx hb dX3_range_40 (lv_at hl 1 rfl) ?_
          refine lv_iload hx hb dX3_range_42 (lv_at hl 0 rfl) ?_
          have hPc := hP.sub (ws' := [(q231, .inr (13, [.int 3, .long 0, .null, .null, .int 0, .int 0, .ref q229, .null, .null, .null, .null])), (q229, .inl (cA230, 4, .inr (.inl g441)))]) [0, 1] rfl
          have hDc := hD.sub (ws' := [(q231, .inr (13, [.int 3, .long 0, .null, .null, .int 0, .int 0, .ref q229, .null, .null, .null, .null])), (q229, .inl (cA230, 4, .inr (.inl g441)))]) [0, 1] (by decide) rfl
          have hKc := hK.sub (tys' := [(cA230, .long)]) [0] rfl
          have hFc := va_free (wc := [(q231, .inr (13, [.int 3, .long 0, .null, .null, .int 0, .int 0, .ref q229, .null, .null, .null, .null])), (q229, .inl (cA230, 4, .inr (.inl g441)))]) hD hS hA [0, 1] rfl
          refine va_callv (va_runV (As := [.int (nI k440)]) (rest := []) ⟨hx, hb, hml, hown, hts⟩ (m_X11_put_0 l dC dI H.size zz q231 k440 (.int 3) (.long 0) .null .null (.int 0) (.int 0) q229 .null .null .null .null cA230 g441 (by omega) (by omega) (by omega) (by omega) (by omega) (by omega)) (cwV 1 hts gX3_range_X11_put rfl rfl rfl (by decide +kernel) ⟨Nat.le_of_ble_eq_true rfl, Nat.le_of_ble_eq_true rfl⟩) ⟨(fun a U g mk q => by obtain ⟨q0, q1, qP, qK, qD, qZ⟩ := q; exact ⟨q0, q1, qP, va_K.moved (u := U) (U := U.calling g mk a) (Vm.Alike.refl U.vm) qK, qD, SR.moved (u := U) (U := U.calling g mk a) (State.WarmedH.refl U) qZ⟩), va_recv hK hP (ci := 13) (q0 := 0) rfl rfl, (fun U hU hW => ⟨rfl, by rw [hU], by rw [hU]; exact hPc, va_K.moved hW.alike hKc, hDc.weaken (fun _ _ _ _ => trivial), by rw [hU]; exact SR.moved hW (SR.narrow (SR.kept hZ hS.2.1) hFc)⟩)⟩ rfl rfl hl.1 rfl (lv_room (Nat.le_of_ble_eq_true rfl)) dX3_range_44 ⟨(by show _ ≤ 2; omega), (by show _ ≤ 15; omega)⟩) hS (fun q _ h => hFc q h) hFc (fun u t H1 locs ht hvm hw hB hz1 hk1 hS => ?_)
          obtain ⟨hP1, hK1, hD1⟩ := hB
          rw [ht] at hP1
          have hK1 := va_K.moved hvm.symm hK1
          obtain ⟨hP, hD⟩ := va_join (wr := []) (w1 := [(q231, .inr (13, [.int 3, .long 0, .null, .null, .int 0, .int 0, .ref q229, .null, .null, .null, .null])), (q229, .inl (cA230, 4, .inr (.inl (vp_updL g441 (k440 / 64) ((g441 (k440 / 64)) ||| ((1 : Int64) <<< ((nI (k440 % 64)).toInt64 &&& 63)))))))]) hP hD [0, 1] [] rfl rfl (by decide) (by decide) hk1 hFc hP1 hD1
          generalize H1 = H at hP hS ⊢
          have hP : va_P (dC, dI) vwCl [(q231, .inr (13, [.int 3, .long 0, .null, .null, .int 0, .int 0, .ref q229, .null, .null, .null, .null])), (q229, .inl (cA230, 4, .inr (.inl (vp_updL g441 (k440 / 64) ((g441 (k440 / 64)) ||| ((1 : Int64) <<< ((nI (k440 % 64)).toInt64 &&& 63)))))))] H := hP
          have hD : va_D A [(q231, .inr (13, [.int 3, .long 0, .null, .null, .int 0, .int 0, .ref q229, .null, .null, .null, .null])), (q229, .inl (cA230, 4, .inr (.inl (vp_updL g441 (k440 / 64) ((g441 (k440 / 64)) ||| ((1 : Int64) <<< ((nI (k440 % 64)).toInt64 &&& 63)))))))] := hD
          refine W.widen (k := 2 + 0) (n := 15 + 0) (by omega) (by omega) ?_
          refine lv_iinc (v := (nI (k440 + 1))) (lv' := [(5, .int (nI (k440 + 1))), (4, .ref q231), (0, .int 65), (1, .int 90), (2, .int 97), (3, .int 122)]) hx hb dX3_range_47 hl (k := 0) rfl (nI_1 k440) (by decide) rfl (fun ls hl => ?_)
          refine lv_goto (tgt := 8) hx hb dX3_range_50 (by decide) ?_
          refine W.widen (k := 2 + 0) (n := 15 + 0) (by omega) (by omega) ?_
          exact ih (vp_updL g441 (k440 / 64) ((g441 (k440 / 64)) ||| ((1 : Int64) <<< ((nI (k440 % 64)).toInt64 &&& 63)))) _ _ _ ⟨hP.sub [0, 1] rfl, hD.sub [0, 1] (by decide) rfl, hS, lv_sub hl [0, 1, 2, 3, 4, 5] rfl⟩
    · refine lv_iload hx hb dX3_range_22 (lv_at hl 0 rfl) ?_
      refine lv_iload_n hx hb dX3_range_24 rfl (lv_at hl 3 rfl) ?_
      refine lv_icmp_le (tgt := 40) hx hb dX3_range_25 (by decide) (fun cs466 => ?_) (fun cs466 => ?_)
      · refine lv_aload hx hb dX3_range_40 (lv_at hl 1 rfl) ?_
        refine lv_iload hx hb dX3_range_42 (lv_at hl 0 rfl) ?_
        have hPc := hP.sub (ws' := [(q231, .inr (13, [.int 3, .long 0, .null, .null, .int 0, .int 0, .ref q229, .null, .null, .null, .null])), (q229, .inl (cA230, 4, .inr (.inl g441)))]) [0, 1] rfl
        have hDc := hD.sub (ws' := [(q231, .inr (13, [.int 3, .long 0, .null, .null, .int 0, .int 0, .ref q229, .null, .null, .null, .null])), (q229, .inl (cA230, 4, .inr (.inl g441)))]) [0, 1] (by decide) rfl
        have hKc := hK.sub (tys' := [(cA230, .long)]) [0] rfl
        have hFc := va_free (wc := [(q231, .inr (13, [.int 3, .long 0, .null, .null, .int 0, .int 0, .ref q229, .null, .null, .null, .null])), (q229, .inl (cA230, 4, .inr (.inl g441)))]) hD hS hA [0, 1] rfl
        refine va_callv (va_runV (As := [.int (nI k440)]) (rest := []) ⟨hx, hb, hml, hown, hts⟩ (m_X11_put_0 l dC dI H.size zz q231 k440 (.int 3) (.long 0) .null .null (.int 0) (.int 0) q229 .null .null .null .null cA230 g441 (by omega) (by omega) (by omega) (by omega) (by omega) (by omega)) (cwV 1 hts gX3_range_X11_put rfl rfl rfl (by decide +kernel) ⟨Nat.le_of_ble_eq_true rfl, Nat.le_of_ble_eq_true rfl⟩) ⟨(fun a U g mk q => by obtain ⟨q0, q1, qP, qK, qD, qZ⟩ := q; exact ⟨q0, q1, qP, va_K.moved (u := U) (U := U.calling g mk a) (Vm.Alike.refl U.vm) qK, qD, SR.moved (u := U) (U := U.calling g mk a) (State.WarmedH.refl U) qZ⟩), va_recv hK hP (ci := 13) (q0 := 0) rfl rfl, (fun U hU hW => ⟨rfl, by rw [hU], by rw [hU]; exact hPc, va_K.moved hW.alike hKc, hDc.weaken (fun _ _ _ _ => trivial), by rw [hU]; exact SR.moved hW (SR.narrow (SR.kept hZ hS.2.1) hFc)⟩)⟩ rfl rfl hl.1 rfl (lv_room (Nat.le_of_ble_eq_true rfl)) dX3_range_44 ⟨(by show _ ≤ 2; omega), (by show _ ≤ 15; omega)⟩) hS (fun q _ h => hFc q h) hFc (fun u t H1 locs ht hvm hw hB hz1 hk1 hS => ?_)
        obtain ⟨hP1, hK1, hD1⟩ := hB
        rw [ht] at hP1
        have hK1 := va_K.moved hvm.symm hK1
        obtain ⟨hP, hD⟩ := va_join (wr := []) (w1 := [(q231, .inr (13, [.int 3, .long 0, .null, .null, .int 0, .int 0, .ref q229, .null, .null, .null, .null])), (q229, .inl (cA230, 4, .inr (.inl (vp_updL g441 (k440 / 64) ((g441 (k440 / 64)) ||| ((1 : Int64) <<< ((nI (k440 % 64)).toInt64 &&& 63)))))))]) hP hD [0, 1] [] rfl rfl (by decide) (by decide) hk1 hFc hP1 hD1
        generalize H1 = H at hP hS ⊢
        have hP : va_P (dC, dI) vwCl [(q231, .inr (13, [.int 3, .long 0, .null, .null, .int 0, .int 0, .ref q229, .null, .null, .null, .null])), (q229, .inl (cA230, 4, .inr (.inl (vp_updL g441 (k440 / 64) ((g441 (k440 / 64)) ||| ((1 : Int64) <<< ((nI (k440 % 64)).toInt64 &&& 63)))))))] H := hP
        have hD : va_D A [(q231, .inr (13, [.int 3, .long 0, .null, .null, .int 0, .int 0, .ref q229, .null, .null, .null, .null])), (q229, .inl (cA230, 4, .inr (.inl (vp_updL g441 (k440 / 64) ((g441 (k440 / 64)) ||| ((1 : Int64) <<< ((nI (k440 % 64)).toInt64 &&& 63)))))))] := hD
        refine W.widen (k := 2 + 0) (n := 15 + 0) (by omega) (by omega) ?_
        refine lv_iinc (v := (nI (k440 + 1))) (lv' := [(5, .int (nI (k440 + 1))), (4, .ref q231), (0, .int 65), (1, .int 90), (2, .int 97), (3, .int 122)]) hx hb dX3_range_47 hl (k := 0) rfl (nI_1 k440) (by decide) rfl (fun ls hl => ?_)
        refine lv_goto (tgt := 8) hx hb dX3_range_50 (by decide) ?_
        refine W.widen (k := 2 + 0) (n := 15 + 0) (by omega) (by omega) ?_
        exact ih (vp_updL g441 (k440 / 64) ((g441 (k440 / 64)) ||| ((1 : Int64) <<< ((nI (k440 % 64)).toInt64 &&& 63)))) _ _ _ ⟨hP.sub [0, 1] rfl, hD.sub [0, 1] (by decide) rfl, hS, lv_sub hl [0, 1, 2, 3, 4, 5] rfl⟩
      · refine lv_iload hx hb dX3_range_28 (lv_at hl 0 rfl) ?_
        refine lv_iload_n hx hb dX3_range_30 rfl (lv_at hl 4 rfl) ?_
        refine lv_icmp_lt (tgt := 47) hx hb dX3_range_31 (by decide) (fun cs485 => ?_) (fun cs485 => ?_)
        · refine lv_iinc (v := (nI (k440 + 1))) (lv' := [(5, .int (nI (k440 + 1))), (4, .ref q231), (0, .int 65), (1, .int 90), (2, .int 97), (3, .int 122)]) hx hb dX3_range_47 hl (k := 0) rfl (nI_1 k440) (by decide) rfl (fun ls hl => ?_)
          refine lv_goto (tgt := 8) hx hb dX3_range_50 (by decide) ?_
          refine W.widen (k := 2 + 0) (n := 15 + 0) (by omega) (by omega) ?_
          exact ih g441 _ _ _ ⟨hP.sub [0, 1] rfl, hD.sub [0, 1] (by decide) rfl, hS, lv_sub hl [0, 1, 2, 3, 4, 5] rfl⟩
        · refine lv_iload hx hb dX3_range_34 (lv_at hl 0 rfl) ?_
          refine lv_iload_n hx hb dX3_range_36 rfl (lv_at hl 5 rfl) ?_
          refine lv_icmp_gt (tgt := 47) hx hb dX3_range_37 (by decide) (fun cs486 => ?_) (fun cs486 => ?_)
          · refine lv_iinc (v := (nI (k440 + 1))) (lv' := [(5, .int (nI (k440 + 1))), (4, .ref q231), (0, .int 65), (1, .int 90), (2, .int 97), (3, .int 122)]) hx hb dX3_range_47 hl (k := 0) rfl (nI_1 k440) (by decide) rfl (fun ls hl => ?_)
            refine lv_goto (tgt := 8) hx hb dX3_range_50 (by decide) ?_
            refine W.widen (k := 2 + 0) (n := 15 + 0) (by omega) (by omega) ?_
            exact ih g441 _ _ _ ⟨hP.sub [0, 1] rfl, hD.sub [0, 1] (by decide) rfl, hS, lv_sub hl [0, 1, 2, 3, 4, 5] rfl⟩
          · refine lv_aload hx hb dX3_range_40 (lv_at hl 1 rfl) ?_
            refine lv_iload hx hb dX3_range_42 (lv_at hl 0 rfl) ?_
            have hPc := hP.sub (ws' := [(q231, .inr (13, [.int 3, .long 0, .null, .null, .int 0, .int 0, .ref q229, .null, .null, .null, .null])), (q229, .inl (cA230, 4, .inr (.inl g441)))]) [0, 1] rfl
            have hDc := hD.sub (ws' := [(q231, .inr (13, [.int 3, .long 0, .null, .null, .int 0, .int 0, .ref q229, .null, .null, .null, .null])), (q229, .inl (cA230, 4, .inr (.inl g441)))]) [0, 1] (by decide) rfl
            have hKc := hK.sub (tys' := [(cA230, .long)]) [0] rfl
            have hFc := va_free (wc := [(q231, .inr (13, [.int 3, .long 0, .null, .null, .int 0, .int 0, .ref q229, .null, .null, .null, .null])), (q229, .inl (cA230, 4, .inr (.inl g441)))]) hD hS hA [0, 1] rfl
            refine va_callv (va_runV (As := [.int (nI k440)]) (rest := []) ⟨hx, hb, hml, hown, hts⟩ (m_X11_put_0 l dC dI H.size zz q231 k440 (.int 3) (.long 0) .null .null (.int 0) (.int 0) q229 .null .null .null .null cA230 g441 (by omega) (by omega) (by omega) (by omega) (by omega) (by omega)) (cwV 1 hts gX3_range_X11_put rfl rfl rfl (by decide +kernel) ⟨Nat.le_of_ble_eq_true rfl, Nat.le_of_ble_eq_true rfl⟩) ⟨(fun a U g mk q => by obtain ⟨q0, q1, qP, qK, qD, qZ⟩ := q; exact ⟨q0, q1, qP, va_K.moved (u := U) (U := U.calling g mk a) (Vm.Alike.refl U.vm) qK, qD, SR.moved (u := U) (U := U.calling g mk a) (State.WarmedH.refl U) qZ⟩), va_recv hK hP (ci := 13) (q0 := 0) rfl rfl, (fun U hU hW => ⟨rfl, by rw [hU], by rw [hU]; exact hPc, va_K.moved hW.alike hKc, hDc.weaken (fun _ _ _ _ => trivial), by rw [hU]; exact SR.moved hW (SR.narrow (SR.kept hZ hS.2.1) hFc)⟩)⟩ rfl rfl hl.1 rfl (lv_room (Nat.le_of_ble_eq_true rfl)) dX3_range_44 ⟨(by show _ ≤ 2; omega), (by show _ ≤ 15; omega)⟩) hS (fun q _ h => hFc q h) hFc (fun u t H1 locs ht hvm hw hB hz1 hk1 hS => ?_)
            obtain ⟨hP1, hK1, hD1⟩ := hB
            rw [ht] at hP1
            have hK1 := va_K.moved hvm.symm hK1
            obtain ⟨hP, hD⟩ := va_join (wr := []) (w1 := [(q231, .inr (13, [.int 3, .long 0, .null, .null, .int 0, .int 0, .ref q229, .null, .null, .null, .null])), (q229, .inl (cA230, 4, .inr (.inl (vp_updL g441 (k440 / 64) ((g441 (k440 / 64)) ||| ((1 : Int64) <<< ((nI (k440 % 64)).toInt64 &&& 63)))))))]) hP hD [0, 1] [] rfl rfl (by decide) (by decide) hk1 hFc hP1 hD1
            generalize H1 = H at hP hS ⊢
            have hP : va_P (dC, dI) vwCl [(q231, .inr (13, [.int 3, .long 0, .null, .null, .int 0, .int 0, .ref q229, .null, .null, .null, .null])), (q229, .inl (cA230, 4, .inr (.inl (vp_updL g441 (k440 / 64) ((g441 (k440 / 64)) ||| ((1 : Int64) <<< ((nI (k440 % 64)).toInt64 &&& 63)))))))] H := hP
            have hD : va_D A [(q231, .inr (13, [.int 3, .long 0, .null, .null, .int 0, .int 0, .ref q229, .null, .null, .null, .null])), (q229, .inl (cA230, 4, .inr (.inl (vp_updL g441 (k440 / 64) ((g441 (k440 / 64)) ||| ((1 : Int64) <<< ((nI (k440 % 64)).toInt64 &&& 63)))))))] := hD
            refine W.widen (k := 2 + 0) (n := 15 + 0) (by omega) (by omega) ?_
            refine lv_iinc (v := (nI (k440 + 1))) (lv' := [(5, .int (nI (k440 + 1))), (4, .ref q231), (0, .int 65), (1, .int 90), (2, .int 97), (3, .int 122)]) hx hb dX3_range_47 hl (k := 0) rfl (nI_1 k440) (by decide) rfl (fun ls hl => ?_)
            refine lv_goto (tgt := 8) hx hb dX3_range_50 (by decide) ?_
            refine W.widen (k := 2 + 0) (n := 15 + 0) (by omega) (by omega) ?_
            exact ih (vp_updL g441 (k440 / 64) ((g441 (k440 / 64)) ||| ((1 : Int64) <<< ((nI (k440 % 64)).toInt64 &&& 63)))) _ _ _ ⟨hP.sub [0, 1] rfl, hD.sub [0, 1] (by decide) rfl, hS, lv_sub hl [0, 1, 2, 3, 4, 5] rfl⟩
  · intro a H locs ls hI
    obtain ⟨g441, rfl⟩ : ∃ z, z = a := ⟨_, rfl⟩
    obtain ⟨hP, hD, hS, hl⟩ := hI
    have hl : lv_has ls 6 [(5, .int 256), (4, .ref q231), (0, .int 65), (1, .int 90), (2, .int 97), (3, .int 122)] := hl
    have hP : va_P (dC, dI) vwCl [(q231, .inr (13, [.int 3, .long 0, .null, .null, .int 0, .int 0, .ref q229, .null, .null, .null, .null])), (q229, .inl (cA230, 4, .inr (.inl g441)))] H := hP
    have hD : va_D A [(q231, .inr (13, [.int 3, .long 0, .null, .null, .int 0, .int 0, .ref q229, .null, .null, .null, .null])), (q229, .inl (cA230, 4, .inr (.inl g441)))] := hD
    refine W.widen (k := 2) (n := 15) (Nat.le_of_ble_eq_true rfl) (Nat.le_of_ble_eq_true rfl) ?_
    refine lv_iload hx hb dX3_range_8 (lv_at hl 0 rfl) ?_
    refine lv_sipush (v := 256) hx hb dX3_range_10 (by decide) ?_
    refine lv_icmp_ge (tgt := 53) hx hb dX3_range_13 (by decide) (fun _ => ?_) (fun cx => absurd (show (256 : Int32) ≤ 256 by decide) cx)
    refine lv_aload hx hb dX3_range_53 (lv_at hl 1 rfl) ?_
    have hP9 := hP.sub (ws' := [(q231, .inr (13, [.int 3, .long 0, .null, .null, .int 0, .int 0, .ref q229, .null, .null, .null, .null])), (q229, .inl (cA230, 4, .inr (.inl g441)))]) [0, 1] rfl
    have hD9 := hD.sub (ws' := [(q231, .inr (13, [.int 3, .long 0, .null, .null, .int 0, .int 0, .ref q229, .null, .null, .null, .null])), (q229, .inl (cA230, 4, .inr (.inl g441)))]) [0, 1] (by decide) rfl
    have hK9 := hK.sub (tys' := [(cA230, .long)]) [0] rfl
    exact W.aret (v := .ref q231) hx hb hr (Or.inl ⟨_, rfl⟩) (Or.inr ⟨_, rfl⟩) (fun t ht hW => ⟨⟨(q229, cA230, g441), q231, rfl, trivial, by rw [ht]; exact hP9, va_K.moved hW.alike hK9, hD9⟩, hS.F ht⟩) hS.2.2 dX3_range_55
set_option maxHeartbeats 4000000 in
set_option maxRecDepth 100000 in
theorem m_J0_coder_7d493_0 (l : Launch) (dC : Nat → ClassId) (dI : Nat → Nat → Nat) (sz : Nat) (zz : Nat → Nat)    : Met l yJ0_coder_7d493 wsJ0_coder_7d493 ({ frames := 0, cells := 0, slots := 0, locals := 0 }) (va_Pc [.ref (zz 100)] (fun U => U.heap.size = sz ∧ va_P (dC, dI) vwCl [] U.heap ∧ va_K (dC, dI) vwCl [] U ∧ va_D (fun _ => True) [] ∧ SR zz (va_A [] sz) U U.heap)) (va_Qi (fun (r : Int32) (_ : Unit) => r = 0) (fun (u : Unit) t => match u with | () => va_P (dC, dI) vwCl [] t.heap ∧ va_K (dC, dI) vwCl [] t ∧ va_D (va_A [] sz) []) (va_A [] sz)) 0 0 (va_A [] sz) := by
  refine Met.ofW (cc := cJ0_coder_7d493) (maxL := 1) (ret := (some .byte)) (by decide) rfl ?_
  intro p e s m args below meth c s₁ B hml hv
  obtain ⟨rfl, hsz, hP, hK, hD0, hZ⟩ := hv
  have hx := B.exec
  have hb := B.bytes
  have hr := B.returns
  have hts := atoms_spec (ws := wsJ0_coder_7d493) B.pre
  have hown : s.vm.findClass RJ0 = some m.cls := findClass_of_methodNamed B.named
  have hlocks := B.notSynchronized
  subst hsz
  have hD := hD0.self (sz := s.heap.size)
  generalize hAe : va_A [] s.heap.size = A at hD hZ ⊢
  have hA : ∀ q : Nat, s.heap.size ≤ q → A q := fun q h => by rw [← hAe]; exact Or.inr h
  have hS : va_S A s.heap s.heap [] := va_S.rf
  have hl := lv_entry ([.ref (zz 100)]) (n := 1) (Nat.le_of_ble_eq_true rfl)
  rw [lg_entry_eq]
  generalize (lg_sl ([.ref (zz 100)]) ++ List.replicate (1 - (lg_sl ([.ref (zz 100)])).length) Slot.unset).toArray = ls at hl ⊢
  have hl : lv_has ls 1 [(0, .ref (zz 100))] := hl
  refine va_gets hx hb hZ.2.2.1 hS hown (hts (.fieldLink RJ0 38 "java/lang/String" "COMPACT_STRINGS" "Z") (by decide +kernel)) (fun _ h9 => h9) dJ0_coder_7d493_0 ?_
  refine lv_if_eq (tgt := 13) hx hb dJ0_coder_7d493_3 (by decide) (fun cx => absurd cx (show ¬ (1 : Int32) = 0 by decide)) (fun _ => ?_)
  refine lv_aload_n hx hb dJ0_coder_7d493_6 rfl (lv_at hl 0 rfl) ?_
  refine vk_getf (v := .int 0) hx hb (hZ.2.2.2.2.2.2.1.1 0 (by decide)).2.1 hS hown (hts (.fieldLink RJ0 15 "java/lang/String" "coder" "B") (by decide +kernel)) (fun _ h9 => h9) dJ0_coder_7d493_7 ?_
  refine lv_goto (tgt := 14) hx hb dJ0_coder_7d493_10 (by decide) ?_
  have hP9 := hP.sub (ws' := []) [] rfl
  have hD9 := hD.sub (ws' := []) [] (by decide) rfl
  have hK9 := hK.sub (tys' := []) [] rfl
  exact W.zret (v := 0) hx hb hr (by decide) (fun t ht hW => ⟨⟨0, (), rfl, rfl, by rw [ht]; exact hP9, va_K.moved hW.alike hK9, hD9⟩, hS.F ht⟩) hS.2.2 dJ0_coder_7d493_14
set_option maxHeartbeats 4000000 in
set_option maxRecDepth 100000 in
theorem m_J0_length_8abf5_0 (l : Launch) (dC : Nat → ClassId) (dI : Nat → Nat → Nat) (sz : Nat) (zz : Nat → Nat)    : Met l yJ0_length_8abf5 wsJ0_length_8abf5 ({ frames := 1, cells := 0, slots := 0, locals := 20 }) (va_Pc [.ref (zz 100)] (fun U => U.heap.size = sz ∧ va_P (dC, dI) vwCl [] U.heap ∧ va_K (dC, dI) vwCl [] U ∧ va_D (fun _ => True) [] ∧ SR zz (va_A [] sz) U U.heap)) (va_Qi (fun (r : Int32) (_ : Unit) => r = 249) (fun (u : Unit) t => match u with | () => va_P (dC, dI) vwCl [] t.heap ∧ va_K (dC, dI) vwCl [] t ∧ va_D (va_A [] sz) []) (va_A [] sz)) 0 0 (va_A [] sz) := by
  refine Met.ofW (cc := cJ0_length_8abf5) (maxL := 1) (ret := (some .int)) (by decide) rfl ?_
  intro p e s m args below meth c s₁ B hml hv
  obtain ⟨rfl, hsz, hP, hK, hD0, hZ⟩ := hv
  have hx := B.exec
  have hb := B.bytes
  have hr := B.returns
  have hts := atoms_spec (ws := wsJ0_length_8abf5) B.pre
  have hown : s.vm.findClass RJ0 = some m.cls := findClass_of_methodNamed B.named
  have hlocks := B.notSynchronized
  subst hsz
  have hD := hD0.self (sz := s.heap.size)
  generalize hAe : va_A [] s.heap.size = A at hD hZ ⊢
  have hA : ∀ q : Nat, s.heap.size ≤ q → A q := fun q h => by rw [← hAe]; exact Or.inr h
  have hS : va_S A s.heap s.heap [] := va_S.rf
  have hl := lv_entry ([.ref (zz 100)]) (n := 1) (Nat.le_of_ble_eq_true rfl)
  rw [lg_entry_eq]
  generalize (lg_sl ([.ref (zz 100)]) ++ List.replicate (1 - (lg_sl ([.ref (zz 100)])).length) Slot.unset).toArray = ls at hl ⊢
  have hl : lv_has ls 1 [(0, .ref (zz 100))] := hl
  refine lv_aload_n hx hb dJ0_length_8abf5_0 rfl (lv_at hl 0 rfl) ?_
  refine vk_getf (v := .ref (zz 101)) hx hb (hZ.2.2.2.2.2.2.1.1 0 (by decide)).2.2.1 hS hown (hts (.fieldLink RJ0 9 "java/lang/String" "value" "[B") (by decide +kernel)) (fun _ h9 => h9) dJ0_length_8abf5_1 ?_
  refine va_tlen (v := 249) hx hb (hZ.2.2.2.2.2.2.1.1 0 (by decide)).2.2.2 hS (by decide) dJ0_length_8abf5_4 ?_
  refine lv_aload_n hx hb dJ0_length_8abf5_5 rfl (lv_at hl 0 rfl) ?_
  have hPc := hP.sub (ws' := []) [] rfl
  have hDc := hD.sub (ws' := []) [] (by decide) rfl
  have hKc := hK.sub (tys' := []) [] rfl
  have hFc := va_free (wc := []) hD hS hA [] rfl
  refine va_calli (va_runV (As := []) (rest := [.int 249]) ⟨hx, hb, hml, hown, hts⟩ (m_J0_coder_7d493_0 l dC dI s.heap.size zz ) (cwV 0 hts gJ0_length_8abf5_J0_coder_7d493 rfl rfl rfl (by decide +kernel) ⟨Nat.le_of_ble_eq_true rfl, Nat.le_of_ble_eq_true rfl⟩) ⟨(fun a U g mk q => by obtain ⟨q0, q1, qP, qK, qD, qZ⟩ := q; exact ⟨q0, q1, qP, va_K.moved (u := U) (U := U.calling g mk a) (Vm.Alike.refl U.vm) qK, qD, SR.moved (u := U) (U := U.calling g mk a) (State.WarmedH.refl U) qZ⟩), vk_recv hZ.2.2.2.2.2.2.1 (i := 0) (by decide) hS, (fun U hU hW => ⟨rfl, by rw [hU], by rw [hU]; exact hPc, va_K.moved hW.alike hKc, hDc.weaken (fun _ _ _ _ => trivial), by rw [hU]; exact SR.moved hW (SR.narrow (SR.kept hZ hS.2.1) hFc)⟩)⟩ rfl rfl hl.1 rfl (lv_room (Nat.le_of_ble_eq_true rfl)) dJ0_length_8abf5_6 ⟨(Nat.le_of_ble_eq_true rfl), (Nat.le_of_ble_eq_true rfl)⟩) hS (fun q _ h => hFc q h) hFc (fun ri u t H1 locs ht hvm hw hB hz1 hk1 hS => ?_)
  obtain ⟨hP1, hK1, hD1⟩ := hB
  rw [ht] at hP1
  have hK1 := va_K.moved hvm.symm hK1
  obtain ⟨hP, hD⟩ := va_join (wr := []) (w1 := []) hP hD [] [] rfl rfl (by decide) (by decide) hk1 hFc hP1 hD1
  generalize H1 = H at hP hS ⊢
  have hP : va_P (dC, dI) vwCl [] H := hP
  have hD : va_D A [] := hD
  refine W.widen (k := 0) (n := 0) (Nat.le_of_ble_eq_true rfl) (Nat.le_of_ble_eq_true rfl) ?_
  subst hw
  refine lv_ishr hx hb dJ0_length_8abf5_9 ?_
  refine lv_topi (fun z654 ez654 => ?_)
  have ez654 : z654 = 249 := ez654.trans (by decide)
  subst ez654
  have hP9 := hP.sub (ws' := []) [] rfl
  have hD9 := hD.sub (ws' := []) [] (by decide) rfl
  have hK9 := hK.sub (tys' := []) [] rfl
  exact W.iret (v := 249) hx hb hr (fun t ht hW => ⟨⟨249, (), rfl, rfl, by rw [ht]; exact hP9, va_K.moved hW.alike hK9, hD9⟩, hS.F ht⟩) hS.2.2 dJ0_length_8abf5_10
set_option maxHeartbeats 4000000 in
set_option maxRecDepth 100000 in
theorem m_J0_isLatin1_aae02_0 (l : Launch) (dC : Nat → ClassId) (dI : Nat → Nat → Nat) (sz : Nat) (zz : Nat → Nat)    : Met l yJ0_isLatin1_aae02 wsJ0_isLatin1_aae02 ({ frames := 0, cells := 0, slots := 0, locals := 0 }) (va_Pc [.ref (zz 100)] (fun U => U.heap.size = sz ∧ va_P (dC, dI) vwCl [] U.heap ∧ va_K (dC, dI) vwCl [] U ∧ va_D (fun _ => True) [] ∧ SR zz (va_A [] sz) U U.heap)) (va_Qi (fun (r : Int32) (_ : Unit) => r = 1) (fun (u : Unit) t => match u with | () => va_P (dC, dI) vwCl [] t.heap ∧ va_K (dC, dI) vwCl [] t ∧ va_D (va_A [] sz) []) (va_A [] sz)) 0 0 (va_A [] sz) := by
  refine Met.ofW (cc := cJ0_isLatin1_aae02) (maxL := 1) (ret := (some .boolean)) (by decide) rfl ?_
  intro p e s m args below meth c s₁ B hml hv
  obtain ⟨rfl, hsz, hP, hK, hD0, hZ⟩ := hv
  have hx := B.exec
  have hb := B.bytes
  have hr := B.returns
  have hts := atoms_spec (ws := wsJ0_isLatin1_aae02) B.pre
  have hown : s.vm.findClass RJ0 = some m.cls := findClass_of_methodNamed B.named
  have hlocks := B.notSynchronized
  subst hsz
  have hD := hD0.self (sz := s.heap.size)
  generalize hAe : va_A [] s.heap.size = A at hD hZ ⊢
  have hA : ∀ q : Nat, s.heap.size ≤ q → A q := fun q h => by rw [← hAe]; exact Or.inr h
  have hS : va_S A s.heap s.heap [] := va_S.rf
  have hl := lv_entry ([.ref (zz 100)]) (n := 1) (Nat.le_of_ble_eq_true rfl)
  rw [lg_entry_eq]
  generalize (lg_sl ([.ref (zz 100)]) ++ List.replicate (1 - (lg_sl ([.ref (zz 100)])).length) Slot.unset).toArray = ls at hl ⊢
  have hl : lv_has ls 1 [(0, .ref (zz 100))] := hl
  refine va_gets hx hb hZ.2.2.1 hS hown (hts (.fieldLink RJ0 38 "java/lang/String" "COMPACT_STRINGS" "Z") (by decide +kernel)) (fun _ h9 => h9) dJ0_isLatin1_aae02_0 ?_
  refine lv_if_eq (tgt := 17) hx hb dJ0_isLatin1_aae02_3 (by decide) (fun cx => absurd cx (show ¬ (1 : Int32) = 0 by decide)) (fun _ => ?_)
  refine lv_aload_n hx hb dJ0_isLatin1_aae02_6 rfl (lv_at hl 0 rfl) ?_
  refine vk_getf (v := .int 0) hx hb (hZ.2.2.2.2.2.2.1.1 0 (by decide)).2.1 hS hown (hts (.fieldLink RJ0 15 "java/lang/String" "coder" "B") (by decide +kernel)) (fun _ h9 => h9) dJ0_isLatin1_aae02_7 ?_
  refine lv_if_ne (tgt := 17) hx hb dJ0_isLatin1_aae02_10 (by decide) (fun cx => absurd (show (0 : Int32) = 0 by decide) cx) (fun _ => ?_)
  refine lv_iconst (v := 1) hx hb dJ0_isLatin1_aae02_13 (by decide) ?_
  refine lv_goto (tgt := 18) hx hb dJ0_isLatin1_aae02_14 (by decide) ?_
  have hP9 := hP.sub (ws' := []) [] rfl
  have hD9 := hD.sub (ws' := []) [] (by decide) rfl
  have hK9 := hK.sub (tys' := []) [] rfl
  exact W.zret (v := 1) hx hb hr (by decide) (fun t ht hW => ⟨⟨1, (), rfl, rfl, by rw [ht]; exact hP9, va_K.moved hW.alike hK9, hD9⟩, hS.F ht⟩) hS.2.2 dJ0_isLatin1_aae02_18
set_option maxHeartbeats 4000000 in
set_option maxRecDepth 100000 in
theorem m_J3_checkIndex_8e157_0 (l : Launch) (dC : Nat → ClassId) (dI : Nat → Nat → Nat) (sz : Nat) (zz : Nat → Nat) (k658 : Nat)  (hi_k658 : k658 ≤ 248)  : Met l yJ3_checkIndex_8e157 wsJ3_checkIndex_8e157 ({ frames := 0, cells := 0, slots := 0, locals := 0 }) (va_Pc [.int (nI k658), .int 249, .ref (zz 3)] (fun U => U.heap.size = sz ∧ va_P (dC, dI) vwCl [] U.heap ∧ va_K (dC, dI) vwCl [] U ∧ va_D (fun _ => True) [] ∧ SR zz (va_A [] sz) U U.heap)) (va_Qi (fun (r : Int32) (_ : Unit) => r = nI k658) (fun (u : Unit) t => match u with | () => va_P (dC, dI) vwCl [] t.heap ∧ va_K (dC, dI) vwCl [] t ∧ va_D (va_A [] sz) []) (va_A [] sz)) 0 0 (va_A [] sz) := by
  refine Met.ofW (cc := cJ3_checkIndex_8e157) (maxL := 3) (ret := (some .int)) (by decide) rfl ?_
  intro p e s m args below meth c s₁ B hml hv
  obtain ⟨rfl, hsz, hP, hK, hD0, hZ⟩ := hv
  have hx := B.exec
  have hb := B.bytes
  have hr := B.returns
  have hts := atoms_spec (ws := wsJ3_checkIndex_8e157) B.pre
  have hown : s.vm.findClass RJ3 = some m.cls := findClass_of_methodNamed B.named
  have hlocks := B.notSynchronized
  subst hsz
  have hD := hD0.self (sz := s.heap.size)
  generalize hAe : va_A [] s.heap.size = A at hD hZ ⊢
  have hA : ∀ q : Nat, s.heap.size ≤ q → A q := fun q h => by rw [← hAe]; exact Or.inr h
  have hS : va_S A s.heap s.heap [] := va_S.rf
  have hl := lv_entry ([.int (nI k658), .int 249, .ref (zz 3)]) (n := 3) (Nat.le_of_ble_eq_true rfl)
  rw [lg_entry_eq]
  generalize (lg_sl ([.int (nI k658), .int 249, .ref (zz 3)]) ++ List.replicate (3 - (lg_sl ([.int (nI k658), .int 249, .ref (zz 3)])).length) Slot.unset).toArray = ls at hl ⊢
  have hl : lv_has ls 3 [(0, .int (nI k658)), (1, .int 249), (2, .ref (zz 3))] := hl
  refine lv_iload_n hx hb dJ3_checkIndex_8e157_0 rfl (lv_at hl 0 rfl) ?_
  refine lv_if_lt (tgt := 9) hx hb dJ3_checkIndex_8e157_1 (by decide) (fun cx => absurd cx (nI_nlt (a := k658) (b := 0) (by omega) (by omega))) (fun _ => ?_)
  refine lv_iload_n hx hb dJ3_checkIndex_8e157_4 rfl (lv_at hl 0 rfl) ?_
  refine lv_iload_n hx hb dJ3_checkIndex_8e157_5 rfl (lv_at hl 1 rfl) ?_
  refine lv_icmp_lt (tgt := 16) hx hb dJ3_checkIndex_8e157_6 (by decide) (fun _ => ?_) (fun cx => absurd (nI_lt (a := k658) (b := 249) (by omega) (by decide)) cx)
  refine lv_iload_n hx hb dJ3_checkIndex_8e157_16 rfl (lv_at hl 0 rfl) ?_
  have hP9 := hP.sub (ws' := []) [] rfl
  have hD9 := hD.sub (ws' := []) [] (by decide) rfl
  have hK9 := hK.sub (tys' := []) [] rfl
  exact W.iret (v := (nI k658)) hx hb hr (fun t ht hW => ⟨⟨(nI k658), (), rfl, rfl, by rw [ht]; exact hP9, va_K.moved hW.alike hK9, hD9⟩, hS.F ht⟩) hS.2.2 dJ3_checkIndex_8e157_17
set_option maxHeartbeats 4000000 in
set_option maxRecDepth 100000 in
theorem m_J0_checkIndex_df160_0 (l : Launch) (dC : Nat → ClassId) (dI : Nat → Nat → Nat) (sz : Nat) (zz : Nat → Nat) (k657 : Nat)  (hi_k657 : k657 ≤ 248)  : Met l yJ0_checkIndex_df160 wsJ0_checkIndex_df160 ({ frames := 1, cells := 0, slots := 0, locals := 22 }) (va_Pc [.int (nI k657), .int 249] (fun U => U.heap.size = sz ∧ va_P (dC, dI) vwCl [] U.heap ∧ va_K (dC, dI) vwCl [] U ∧ va_D (fun _ => True) [] ∧ SR zz (va_A [] sz) U U.heap)) (va_Qv (fun (_ : Unit) => True) (fun (u : Unit) t => match u with | () => va_P (dC, dI) vwCl [] t.heap ∧ va_K (dC, dI) vwCl [] t ∧ va_D (va_A [] sz) []) (va_A [] sz)) 0 0 (va_A [] sz) := by
  refine Met.ofW (cc := cJ0_checkIndex_df160) (maxL := 2) (ret := none) (by decide) rfl ?_
  intro p e s m args below meth c s₁ B hml hv
  obtain ⟨rfl, hsz, hP, hK, hD0, hZ⟩ := hv
  have hx := B.exec
  have hb := B.bytes
  have hr := B.returns
  have hts := atoms_spec (ws := wsJ0_checkIndex_df160) B.pre
  have hown : s.vm.findClass RJ0 = some m.cls := findClass_of_methodNamed B.named
  have hlocks := B.notSynchronized
  subst hsz
  have hD := hD0.self (sz := s.heap.size)
  generalize hAe : va_A [] s.heap.size = A at hD hZ ⊢
  have hA : ∀ q : Nat, s.heap.size ≤ q → A q := fun q h => by rw [← hAe]; exact Or.inr h
  have hS : va_S A s.heap s.heap [] := va_S.rf
  have hl := lv_entry ([.int (nI k657), .int 249]) (n := 2) (Nat.le_of_ble_eq_true rfl)
  rw [lg_entry_eq]
  generalize (lg_sl ([.int (nI k657), .int 249]) ++ List.replicate (2 - (lg_sl ([.int (nI k657), .int 249])).length) Slot.unset).toArray = ls at hl ⊢
  have hl : lv_has ls 2 [(0, .int (nI k657)), (1, .int 249)] := hl
  refine lv_iload_n hx hb dJ0_checkIndex_df160_0 rfl (lv_at hl 0 rfl) ?_
  refine lv_iload_n hx hb dJ0_checkIndex_df160_1 rfl (lv_at hl 1 rfl) ?_
  refine va_gets hx hb hZ.2.2.2.2.2.1 hS hown (hts (.fieldLink RJ0 1053 "jdk/internal/util/Preconditions" "SIOOBE_FORMATTER" "Ljava/util/function/BiFunction;") (by decide +kernel)) (fun _ h9 => h9) dJ0_checkIndex_df160_2 ?_
  have hPc := hP.sub (ws' := []) [] rfl
  have hDc := hD.sub (ws' := []) [] (by decide) rfl
  have hKc := hK.sub (tys' := []) [] rfl
  have hFc := va_free (wc := []) hD hS hA [] rfl
  refine va_calli (va_runS (As := [.int (nI k657), .int 249, .ref (zz 3)]) (rest := []) ⟨hx, hb, hml, hown, hts⟩ (m_J3_checkIndex_8e157_0 l dC dI s.heap.size zz k657 (by omega)) (va_cwS 3 hts gJ0_checkIndex_df160_J3_checkIndex_8e157 rfl rfl rfl (by decide +kernel) ⟨Nat.le_of_ble_eq_true rfl, Nat.le_of_ble_eq_true rfl⟩) ⟨(fun a U g mk q => by obtain ⟨q0, q1, qP, qK, qD, qZ⟩ := q; exact ⟨q0, q1, qP, va_K.moved (u := U) (U := U.calling g mk a) (Vm.Alike.refl U.vm) qK, qD, SR.moved (u := U) (U := U.calling g mk a) (State.WarmedH.refl U) qZ⟩), (fun U hU hW => ⟨rfl, by rw [hU], by rw [hU]; exact hPc, va_K.moved hW.alike hKc, hDc.weaken (fun _ _ _ _ => trivial), by rw [hU]; exact SR.moved hW (SR.narrow (SR.kept hZ hS.2.1) hFc)⟩)⟩ rfl rfl hl.1 rfl (lv_room (Nat.le_of_ble_eq_true rfl)) dJ0_checkIndex_df160_5 ⟨(Nat.le_of_ble_eq_true rfl), (Nat.le_of_ble_eq_true rfl)⟩) hS (fun q _ h => hFc q h) hFc (fun ri u t H1 locs ht hvm hw hB hz1 hk1 hS => ?_)
  obtain ⟨hP1, hK1, hD1⟩ := hB
  rw [ht] at hP1
  have hK1 := va_K.moved hvm.symm hK1
  obtain ⟨hP, hD⟩ := va_join (wr := []) (w1 := []) hP hD [] [] rfl rfl (by decide) (by decide) hk1 hFc hP1 hD1
  generalize H1 = H at hP hS ⊢
  have hP : va_P (dC, dI) vwCl [] H := hP
  have hD : va_D A [] := hD
  refine W.widen (k := 0) (n := 0) (Nat.le_of_ble_eq_true rfl) (Nat.le_of_ble_eq_true rfl) ?_
  subst hw
  refine lv_pop hx hb dJ0_checkIndex_df160_8 rfl ?_
  have hP9 := hP.sub (ws' := []) [] rfl
  have hD9 := hD.sub (ws' := []) [] (by decide) rfl
  have hK9 := hK.sub (tys' := []) [] rfl
  exact W.vret hx hb hr (fun t ht hW => ⟨⟨(), rfl, trivial, by rw [ht]; exact hP9, va_K.moved hW.alike hK9, hD9⟩, hS.F ht⟩) hS.2.2 dJ0_checkIndex_df160_9
set_option maxHeartbeats 4000000 in
set_option maxRecDepth 100000 in
theorem m_J1_charAt_3b067_0 (l : Launch) (dC : Nat → ClassId) (dI : Nat → Nat → Nat) (sz : Nat) (zz : Nat → Nat) (k656 : Nat)  (hi_k656 : k656 ≤ 248)  : Met l yJ1_charAt_3b067 wsJ1_charAt_3b067 ({ frames := 2, cells := 0, slots := 0, locals := 43 }) (va_Pc [.ref (zz 101), .int (nI k656)] (fun U => U.heap.size = sz ∧ va_P (dC, dI) vwCl [] U.heap ∧ va_K (dC, dI) vwCl [] U ∧ va_D (fun _ => True) [] ∧ SR zz (va_A [] sz) U U.heap)) (va_Qi (fun (r : Int32) (_ : Unit) => r = (((sk_b0.getD k656 0) &&& 255).toUInt32 % 65536).toInt32) (fun (u : Unit) t => match u with | () => va_P (dC, dI) vwCl [] t.heap ∧ va_K (dC, dI) vwCl [] t ∧ va_D (va_A [] sz) []) (va_A [] sz)) 0 0 (va_A [] sz) := by
  refine Met.ofW (cc := cJ1_charAt_3b067) (maxL := 2) (ret := (some .char)) (by decide) rfl ?_
  intro p e s m args below meth c s₁ B hml hv
  obtain ⟨rfl, hsz, hP, hK, hD0, hZ⟩ := hv
  have hx := B.exec
  have hb := B.bytes
  have hr := B.returns
  have hts := atoms_spec (ws := wsJ1_charAt_3b067) B.pre
  have hown : s.vm.findClass RJ1 = some m.cls := findClass_of_methodNamed B.named
  have hlocks := B.notSynchronized
  subst hsz
  have hD := hD0.self (sz := s.heap.size)
  generalize hAe : va_A [] s.heap.size = A at hD hZ ⊢
  have hA : ∀ q : Nat, s.heap.size ≤ q → A q := fun q h => by rw [← hAe]; exact Or.inr h
  have hS : va_S A s.heap s.heap [] := va_S.rf
  have hl := lv_entry ([.ref (zz 101), .int (nI k656)]) (n := 2) (Nat.le_of_ble_eq_true rfl)
  rw [lg_entry_eq]
  generalize (lg_sl ([.ref (zz 101), .int (nI k656)]) ++ List.replicate (2 - (lg_sl ([.ref (zz 101), .int (nI k656)])).length) Slot.unset).toArray = ls at hl ⊢
  have hl : lv_has ls 2 [(0, .ref (zz 101)), (1, .int (nI k656))] := hl
  refine lv_iload_n hx hb dJ1_charAt_3b067_0 rfl (lv_at hl 1 rfl) ?_
  refine lv_aload_n hx hb dJ1_charAt_3b067_1 rfl (lv_at hl 0 rfl) ?_
  refine va_tlen (v := 249) hx hb (hZ.2.2.2.2.2.2.1.1 0 (by decide)).2.2.2 hS (by decide) dJ1_charAt_3b067_2 ?_
  have hPc := hP.sub (ws' := []) [] rfl
  have hDc := hD.sub (ws' := []) [] (by decide) rfl
  have hKc := hK.sub (tys' := []) [] rfl
  have hFc := va_free (wc := []) hD hS hA [] rfl
  refine va_callv (va_runS (As := [.int (nI k656), .int 249]) (rest := []) ⟨hx, hb, hml, hown, hts⟩ (m_J0_checkIndex_df160_0 l dC dI s.heap.size zz k656 (by omega)) (va_cwS 2 hts gJ1_charAt_3b067_J0_checkIndex_df160 rfl rfl rfl (by decide +kernel) ⟨Nat.le_of_ble_eq_true rfl, Nat.le_of_ble_eq_true rfl⟩) ⟨(fun a U g mk q => by obtain ⟨q0, q1, qP, qK, qD, qZ⟩ := q; exact ⟨q0, q1, qP, va_K.moved (u := U) (U := U.calling g mk a) (Vm.Alike.refl U.vm) qK, qD, SR.moved (u := U) (U := U.calling g mk a) (State.WarmedH.refl U) qZ⟩), (fun U hU hW => ⟨rfl, by rw [hU], by rw [hU]; exact hPc, va_K.moved hW.alike hKc, hDc.weaken (fun _ _ _ _ => trivial), by rw [hU]; exact SR.moved hW (SR.narrow (SR.kept hZ hS.2.1) hFc)⟩)⟩ rfl rfl hl.1 rfl (lv_room (Nat.le_of_ble_eq_true rfl)) dJ1_charAt_3b067_3 ⟨(Nat.le_of_ble_eq_true rfl), (Nat.le_of_ble_eq_true rfl)⟩) hS (fun q _ h => hFc q h) hFc (fun u t H1 locs ht hvm hw hB hz1 hk1 hS => ?_)
  obtain ⟨hP1, hK1, hD1⟩ := hB
  rw [ht] at hP1
  have hK1 := va_K.moved hvm.symm hK1
  obtain ⟨hP, hD⟩ := va_join (wr := []) (w1 := []) hP hD [] [] rfl rfl (by decide) (by decide) hk1 hFc hP1 hD1
  generalize H1 = H at hP hS ⊢
  have hP : va_P (dC, dI) vwCl [] H := hP
  have hD : va_D A [] := hD
  refine W.widen (k := 0) (n := 0) (Nat.le_of_ble_eq_true rfl) (Nat.le_of_ble_eq_true rfl) ?_
  refine lv_aload_n hx hb dJ1_charAt_3b067_6 rfl (lv_at hl 0 rfl) ?_
  refine lv_iload_n hx hb dJ1_charAt_3b067_7 rfl (lv_at hl 1 rfl) ?_
  refine va_tb (v := .int (sk_b0.getD k656 0)) hx hb (hZ.2.2.2.2.2.2.1.1 0 (by decide)).2.2.2 hS (show vp_in (nI k656) 249 from (vp_in_nI (by omega) (by decide))) (by rw [nI_clamp (n := k656) (by omega)]; rfl) dJ1_charAt_3b067_8 ?_
  refine lv_sipush (v := 255) hx hb dJ1_charAt_3b067_9 (by decide) ?_
  refine lv_iand hx hb dJ1_charAt_3b067_12 ?_
  refine lv_i2c (v := ((((sk_b0.getD k656 0) &&& 255).toUInt32 % 65536).toInt32)) hx hb dJ1_charAt_3b067_13 rfl ?_
  have hP9 := hP.sub (ws' := []) [] rfl
  have hD9 := hD.sub (ws' := []) [] (by decide) rfl
  have hK9 := hK.sub (tys' := []) [] rfl
  exact W.zret (v := ((((sk_b0.getD k656 0) &&& 255).toUInt32 % 65536).toInt32)) hx hb hr (pk_nc _) (fun t ht hW => ⟨⟨((((sk_b0.getD k656 0) &&& 255).toUInt32 % 65536).toInt32), (), rfl, rfl, by rw [ht]; exact hP9, va_K.moved hW.alike hK9, hD9⟩, hS.F ht⟩) hS.2.2 dJ1_charAt_3b067_14
set_option maxHeartbeats 4000000 in
set_option maxRecDepth 100000 in
theorem m_J0_charAt_5068e_0 (l : Launch) (dC : Nat → ClassId) (dI : Nat → Nat → Nat) (sz : Nat) (zz : Nat → Nat) (k655 : Nat)  (hi_k655 : k655 ≤ 248)  : Met l yJ0_charAt_5068e wsJ0_charAt_5068e ({ frames := 3, cells := 0, slots := 0, locals := 64 }) (va_Pc [.ref (zz 100), .int (nI k655)] (fun U => U.heap.size = sz ∧ va_P (dC, dI) vwCl [] U.heap ∧ va_K (dC, dI) vwCl [] U ∧ va_D (fun _ => True) [] ∧ SR zz (va_A [] sz) U U.heap)) (va_Qi (fun (r : Int32) (_ : Unit) => r = (((sk_b0.getD k655 0) &&& 255).toUInt32 % 65536).toInt32) (fun (u : Unit) t => match u with | () => va_P (dC, dI) vwCl [] t.heap ∧ va_K (dC, dI) vwCl [] t ∧ va_D (va_A [] sz) []) (va_A [] sz)) 0 0 (va_A [] sz) := by
  refine Met.ofW (cc := cJ0_charAt_5068e) (maxL := 2) (ret := (some .char)) (by decide) rfl ?_
  intro p e s m args below meth c s₁ B hml hv
  obtain ⟨rfl, hsz, hP, hK, hD0, hZ⟩ := hv
  have hx := B.exec
  have hb := B.bytes
  have hr := B.returns
  have hts := atoms_spec (ws := wsJ0_charAt_5068e) B.pre
  have hown : s.vm.findClass RJ0 = some m.cls := findClass_of_methodNamed B.named
  have hlocks := B.notSynchronized
  subst hsz
  have hD := hD0.self (sz := s.heap.size)
  generalize hAe : va_A [] s.heap.size = A at hD hZ ⊢
  have hA : ∀ q : Nat, s.heap.size ≤ q → A q := fun q h => by rw [← hAe]; exact Or.inr h
  have hS : va_S A s.heap s.heap [] := va_S.rf
  have hl := lv_entry ([.ref (zz 100), .int (nI k655)]) (n := 2) (Nat.le_of_ble_eq_true rfl)
  rw [lg_entry_eq]
  generalize (lg_sl ([.ref (zz 100), .int (nI k655)]) ++ List.replicate (2 - (lg_sl ([.ref (zz 100), .int (nI k655)])).length) Slot.unset).toArray = ls at hl ⊢
  have hl : lv_has ls 2 [(0, .ref (zz 100)), (1, .int (nI k655))] := hl
  refine lv_aload_n hx hb dJ0_charAt_5068e_0 rfl (lv_at hl 0 rfl) ?_
  have hPc := hP.sub (ws' := []) [] rfl
  have hDc := hD.sub (ws' := []) [] (by decide) rfl
  have hKc := hK.sub (tys' := []) [] rfl
  have hFc := va_free (wc := []) hD hS hA [] rfl
  refine va_calli (va_runV (As := []) (rest := []) ⟨hx, hb, hml, hown, hts⟩ (m_J0_isLatin1_aae02_0 l dC dI s.heap.size zz ) (cwV 0 hts gJ0_charAt_5068e_J0_isLatin1_aae02 rfl rfl rfl (by decide +kernel) ⟨Nat.le_of_ble_eq_true rfl, Nat.le_of_ble_eq_true rfl⟩) ⟨(fun a U g mk q => by obtain ⟨q0, q1, qP, qK, qD, qZ⟩ := q; exact ⟨q0, q1, qP, va_K.moved (u := U) (U := U.calling g mk a) (Vm.Alike.refl U.vm) qK, qD, SR.moved (u := U) (U := U.calling g mk a) (State.WarmedH.refl U) qZ⟩), vk_recv hZ.2.2.2.2.2.2.1 (i := 0) (by decide) hS, (fun U hU hW => ⟨rfl, by rw [hU], by rw [hU]; exact hPc, va_K.moved hW.alike hKc, hDc.weaken (fun _ _ _ _ => trivial), by rw [hU]; exact SR.moved hW (SR.narrow (SR.kept hZ hS.2.1) hFc)⟩)⟩ rfl rfl hl.1 rfl (lv_room (Nat.le_of_ble_eq_true rfl)) dJ0_charAt_5068e_1 ⟨(Nat.le_of_ble_eq_true rfl), (Nat.le_of_ble_eq_true rfl)⟩) hS (fun q _ h => hFc q h) hFc (fun ri u t H1 locs ht hvm hw hB hz1 hk1 hS => ?_)
  obtain ⟨hP1, hK1, hD1⟩ := hB
  rw [ht] at hP1
  have hK1 := va_K.moved hvm.symm hK1
  obtain ⟨hP, hD⟩ := va_join (wr := []) (w1 := []) hP hD [] [] rfl rfl (by decide) (by decide) hk1 hFc hP1 hD1
  generalize H1 = H at hP hS ⊢
  have hP : va_P (dC, dI) vwCl [] H := hP
  have hD : va_D A [] := hD
  refine W.widen (k := 0) (n := 0) (Nat.le_of_ble_eq_true rfl) (Nat.le_of_ble_eq_true rfl) ?_
  subst hw
  refine lv_if_eq (tgt := 16) hx hb dJ0_charAt_5068e_4 (by decide) (fun cx => absurd cx (show ¬ (1 : Int32) = 0 by decide)) (fun _ => ?_)
  refine lv_aload_n hx hb dJ0_charAt_5068e_7 rfl (lv_at hl 0 rfl) ?_
  refine vk_getf (v := .ref (zz 101)) hx hb (hZ.2.2.2.2.2.2.1.1 0 (by decide)).2.2.1 hS hown (hts (.fieldLink RJ0 9 "java/lang/String" "value" "[B") (by decide +kernel)) (fun _ h9 => h9) dJ0_charAt_5068e_8 ?_
  refine lv_iload_n hx hb dJ0_charAt_5068e_11 rfl (lv_at hl 1 rfl) ?_
  have hPc := hP.sub (ws' := []) [] rfl
  have hDc := hD.sub (ws' := []) [] (by decide) rfl
  have hKc := hK.sub (tys' := []) [] rfl
  have hFc := va_free (wc := []) hD hS hA [] rfl
  refine va_calli (va_runS (As := [.ref (zz 101), .int (nI k655)]) (rest := []) ⟨hx, hb, hml, hown, hts⟩ (m_J1_charAt_3b067_0 l dC dI H.size zz k655 (by omega)) (va_cwS 2 hts gJ0_charAt_5068e_J1_charAt_3b067 rfl rfl rfl (by decide +kernel) ⟨Nat.le_of_ble_eq_true rfl, Nat.le_of_ble_eq_true rfl⟩) ⟨(fun a U g mk q => by obtain ⟨q0, q1, qP, qK, qD, qZ⟩ := q; exact ⟨q0, q1, qP, va_K.moved (u := U) (U := U.calling g mk a) (Vm.Alike.refl U.vm) qK, qD, SR.moved (u := U) (U := U.calling g mk a) (State.WarmedH.refl U) qZ⟩), (fun U hU hW => ⟨rfl, by rw [hU], by rw [hU]; exact hPc, va_K.moved hW.alike hKc, hDc.weaken (fun _ _ _ _ => trivial), by rw [hU]; exact SR.moved hW (SR.narrow (SR.kept hZ hS.2.1) hFc)⟩)⟩ rfl rfl hl.1 rfl (lv_room (Nat.le_of_ble_eq_true rfl)) dJ0_charAt_5068e_12 ⟨(Nat.le_of_ble_eq_true rfl), (Nat.le_of_ble_eq_true rfl)⟩) hS (fun q _ h => hFc q h) hFc (fun ri u t H1 locs ht hvm hw hB hz1 hk1 hS => ?_)
  obtain ⟨hP1, hK1, hD1⟩ := hB
  rw [ht] at hP1
  have hK1 := va_K.moved hvm.symm hK1
  obtain ⟨hP, hD⟩ := va_join (wr := []) (w1 := []) hP hD [] [] rfl rfl (by decide) (by decide) hk1 hFc hP1 hD1
  generalize H1 = H at hP hS ⊢
  have hP : va_P (dC, dI) vwCl [] H := hP
  have hD : va_D A [] := hD
  refine W.widen (k := 0) (n := 0) (Nat.le_of_ble_eq_true rfl) (Nat.le_of_ble_eq_true rfl) ?_
  subst hw
  have hP9 := hP.sub (ws' := []) [] rfl
  have hD9 := hD.sub (ws' := []) [] (by decide) rfl
  have hK9 := hK.sub (tys' := []) [] rfl
  exact W.zret (v := ((((sk_b0.getD k655 0) &&& 255).toUInt32 % 65536).toInt32)) hx hb hr (pk_nc _) (fun t ht hW => ⟨⟨((((sk_b0.getD k655 0) &&& 255).toUInt32 % 65536).toInt32), (), rfl, rfl, by rw [ht]; exact hP9, va_K.moved hW.alike hK9, hD9⟩, hS.F ht⟩) hS.2.2 dJ0_charAt_5068e_15
set_option maxHeartbeats 4000000 in
set_option maxRecDepth 100000 in
theorem m_J3_checkFromToIndex_8c36e_0 (l : Launch) (dC : Nat → ClassId) (dI : Nat → Nat → Nat) (sz : Nat) (zz : Nat → Nat) (k676 : Nat) (k677 : Nat)  (hi_k676 : k676 ≤ 2147483647)  (hi_k677 : k677 ≤ 249) (c1 : k676 ≤ k677) : Met l yJ3_checkFromToIndex_8c36e wsJ3_checkFromToIndex_8c36e ({ frames := 0, cells := 0, slots := 0, locals := 0 }) (va_Pc [.int (nI k676), .int (nI k677), .int 249, .ref (zz 3)] (fun U => U.heap.size = sz ∧ va_P (dC, dI) vwCl [] U.heap ∧ va_K (dC, dI) vwCl [] U ∧ va_D (fun _ => True) [] ∧ SR zz (va_A [] sz) U U.heap)) (va_Qi (fun (r : Int32) (_ : Unit) => r = nI k676) (fun (u : Unit) t => match u with | () => va_P (dC, dI) vwCl [] t.heap ∧ va_K (dC, dI) vwCl [] t ∧ va_D (va_A [] sz) []) (va_A [] sz)) 0 0 (va_A [] sz) := by
  refine Met.ofW (cc := cJ3_checkFromToIndex_8c36e) (maxL := 4) (ret := (some .int)) (by decide) rfl ?_
  intro p e s m args below meth c s₁ B hml hv
  obtain ⟨rfl, hsz, hP, hK, hD0, hZ⟩ := hv
  have hx := B.exec
  have hb := B.bytes
  have hr := B.returns
  have hts := atoms_spec (ws := wsJ3_checkFromToIndex_8c36e) B.pre
  have hown : s.vm.findClass RJ3 = some m.cls := findClass_of_methodNamed B.named
  have hlocks := B.notSynchronized
  subst hsz
  have hD := hD0.self (sz := s.heap.size)
  generalize hAe : va_A [] s.heap.size = A at hD hZ ⊢
  have hA : ∀ q : Nat, s.heap.size ≤ q → A q := fun q h => by rw [← hAe]; exact Or.inr h
  have hS : va_S A s.heap s.heap [] := va_S.rf
  have hl := lv_entry ([.int (nI k676), .int (nI k677), .int 249, .ref (zz 3)]) (n := 4) (Nat.le_of_ble_eq_true rfl)
  rw [lg_entry_eq]
  generalize (lg_sl ([.int (nI k676), .int (nI k677), .int 249, .ref (zz 3)]) ++ List.replicate (4 - (lg_sl ([.int (nI k676), .int (nI k677), .int 249, .ref (zz 3)])).length) Slot.unset).toArray = ls at hl ⊢
  have hl : lv_has ls 4 [(0, .int (nI k676)), (1, .int (nI k677)), (2, .int 249), (3, .ref (zz 3))] := hl
  refine lv_iload_n hx hb dJ3_checkFromToIndex_8c36e_0 rfl (lv_at hl 0 rfl) ?_
  refine lv_if_lt (tgt := 14) hx hb dJ3_checkFromToIndex_8c36e_1 (by decide) (fun cx => absurd cx (nI_nlt (a := k676) (b := 0) (by omega) (by omega))) (fun _ => ?_)
  refine lv_iload_n hx hb dJ3_checkFromToIndex_8c36e_4 rfl (lv_at hl 0 rfl) ?_
  refine lv_iload_n hx hb dJ3_checkFromToIndex_8c36e_5 rfl (lv_at hl 1 rfl) ?_
  refine lv_icmp_gt (tgt := 14) hx hb dJ3_checkFromToIndex_8c36e_6 (by decide) (fun cx => absurd cx (nI_nlt (a := k677) (b := k676) c1 (by omega))) (fun _ => ?_)
  refine lv_iload_n hx hb dJ3_checkFromToIndex_8c36e_9 rfl (lv_at hl 1 rfl) ?_
  refine lv_iload_n hx hb dJ3_checkFromToIndex_8c36e_10 rfl (lv_at hl 2 rfl) ?_
  refine lv_icmp_le (tgt := 22) hx hb dJ3_checkFromToIndex_8c36e_11 (by decide) (fun _ => ?_) (fun cx => absurd (nI_le (a := k677) (b := 249) (by omega) (by decide)) cx)
  refine lv_iload_n hx hb dJ3_checkFromToIndex_8c36e_22 rfl (lv_at hl 0 rfl) ?_
  have hP9 := hP.sub (ws' := []) [] rfl
  have hD9 := hD.sub (ws' := []) [] (by decide) rfl
  have hK9 := hK.sub (tys' := []) [] rfl
  exact W.iret (v := (nI k676)) hx hb hr (fun t ht hW => ⟨⟨(nI k676), (), rfl, rfl, by rw [ht]; exact hP9, va_K.moved hW.alike hK9, hD9⟩, hS.F ht⟩) hS.2.2 dJ3_checkFromToIndex_8c36e_23
set_option maxHeartbeats 4000000 in
set_option maxRecDepth 100000 in
theorem m_J0_checkBoundsBeginEnd_23922_0 (l : Launch) (dC : Nat → ClassId) (dI : Nat → Nat → Nat) (sz : Nat) (zz : Nat → Nat) (k674 : Nat) (k675 : Nat)  (hi_k674 : k674 ≤ 2147483647)  (hi_k675 : k675 ≤ 249) (c1 : k674 ≤ k675) : Met l yJ0_checkBoundsBeginEnd_23922 wsJ0_checkBoundsBeginEnd_23922 ({ frames := 1, cells := 0, slots := 0, locals := 23 }) (va_Pc [.int (nI k674), .int (nI k675), .int 249] (fun U => U.heap.size = sz ∧ va_P (dC, dI) vwCl [] U.heap ∧ va_K (dC, dI) vwCl [] U ∧ va_D (fun _ => True) [] ∧ SR zz (va_A [] sz) U U.heap)) (va_Qv (fun (_ : Unit) => True) (fun (u : Unit) t => match u with | () => va_P (dC, dI) vwCl [] t.heap ∧ va_K (dC, dI) vwCl [] t ∧ va_D (va_A [] sz) []) (va_A [] sz)) 0 0 (va_A [] sz) := by
  refine Met.ofW (cc := cJ0_checkBoundsBeginEnd_23922) (maxL := 3) (ret := none) (by decide) rfl ?_
  intro p e s m args below meth c s₁ B hml hv
  obtain ⟨rfl, hsz, hP, hK, hD0, hZ⟩ := hv
  have hx := B.exec
  have hb := B.bytes
  have hr := B.returns
  have hts := atoms_spec (ws := wsJ0_checkBoundsBeginEnd_23922) B.pre
  have hown : s.vm.findClass RJ0 = some m.cls := findClass_of_methodNamed B.named
  have hlocks := B.notSynchronized
  subst hsz
  have hD := hD0.self (sz := s.heap.size)
  generalize hAe : va_A [] s.heap.size = A at hD hZ ⊢
  have hA : ∀ q : Nat, s.heap.size ≤ q → A q := fun q h => by rw [← hAe]; exact Or.inr h
  have hS : va_S A s.heap s.heap [] := va_S.rf
  have hl := lv_entry ([.int (nI k674), .int (nI k675), .int 249]) (n := 3) (Nat.le_of_ble_eq_true rfl)
  rw [lg_entry_eq]
  generalize (lg_sl ([.int (nI k674), .int (nI k675), .int 249]) ++ List.replicate (3 - (lg_sl ([.int (nI k674), .int (nI k675), .int 249])).length) Slot.unset).toArray = ls at hl ⊢
  have hl : lv_has ls 3 [(0, .int (nI k674)), (1, .int (nI k675)), (2, .int 249)] := hl
  refine lv_iload_n hx hb dJ0_checkBoundsBeginEnd_23922_0 rfl (lv_at hl 0 rfl) ?_
  refine lv_iload_n hx hb dJ0_checkBoundsBeginEnd_23922_1 rfl (lv_at hl 1 rfl) ?_
  refine lv_iload_n hx hb dJ0_checkBoundsBeginEnd_23922_2 rfl (lv_at hl 2 rfl) ?_
  refine va_gets hx hb hZ.2.2.2.2.2.1 hS hown (hts (.fieldLink RJ0 1053 "jdk/internal/util/Preconditions" "SIOOBE_FORMATTER" "Ljava/util/function/BiFunction;") (by decide +kernel)) (fun _ h9 => h9) dJ0_checkBoundsBeginEnd_23922_3 ?_
  have hPc := hP.sub (ws' := []) [] rfl
  have hDc := hD.sub (ws' := []) [] (by decide) rfl
  have hKc := hK.sub (tys' := []) [] rfl
  have hFc := va_free (wc := []) hD hS hA [] rfl
  refine va_calli (va_runS (As := [.int (nI k674), .int (nI k675), .int 249, .ref (zz 3)]) (rest := []) ⟨hx, hb, hml, hown, hts⟩ (m_J3_checkFromToIndex_8c36e_0 l dC dI s.heap.size zz k674 k675 (by omega) (by omega) c1) (va_cwS 4 hts gJ0_checkBoundsBeginEnd_23922_J3_checkFromToIndex_8c36e rfl rfl rfl (by decide +kernel) ⟨Nat.le_of_ble_eq_true rfl, Nat.le_of_ble_eq_true rfl⟩) ⟨(fun a U g mk q => by obtain ⟨q0, q1, qP, qK, qD, qZ⟩ := q; exact ⟨q0, q1, qP, va_K.moved (u := U) (U := U.calling g mk a) (Vm.Alike.refl U.vm) qK, qD, SR.moved (u := U) (U := U.calling g mk a) (State.WarmedH.refl U) qZ⟩), (fun U hU hW => ⟨rfl, by rw [hU], by rw [hU]; exact hPc, va_K.moved hW.alike hKc, hDc.weaken (fun _ _ _ _ => trivial), by rw [hU]; exact SR.moved hW (SR.narrow (SR.kept hZ hS.2.1) hFc)⟩)⟩ rfl rfl hl.1 rfl (lv_room (Nat.le_of_ble_eq_true rfl)) dJ0_checkBoundsBeginEnd_23922_6 ⟨(Nat.le_of_ble_eq_true rfl), (Nat.le_of_ble_eq_true rfl)⟩) hS (fun q _ h => hFc q h) hFc (fun ri u t H1 locs ht hvm hw hB hz1 hk1 hS => ?_)
  obtain ⟨hP1, hK1, hD1⟩ := hB
  rw [ht] at hP1
  have hK1 := va_K.moved hvm.symm hK1
  obtain ⟨hP, hD⟩ := va_join (wr := []) (w1 := []) hP hD [] [] rfl rfl (by decide) (by decide) hk1 hFc hP1 hD1
  generalize H1 = H at hP hS ⊢
  have hP : va_P (dC, dI) vwCl [] H := hP
  have hD : va_D A [] := hD
  refine W.widen (k := 0) (n := 0) (Nat.le_of_ble_eq_true rfl) (Nat.le_of_ble_eq_true rfl) ?_
  subst hw
  refine lv_pop hx hb dJ0_checkBoundsBeginEnd_23922_9 rfl ?_
  have hP9 := hP.sub (ws' := []) [] rfl
  have hD9 := hD.sub (ws' := []) [] (by decide) rfl
  have hK9 := hK.sub (tys' := []) [] rfl
  exact W.vret hx hb hr (fun t ht hW => ⟨⟨(), rfl, trivial, by rw [ht]; exact hP9, va_K.moved hW.alike hK9, hD9⟩, hS.F ht⟩) hS.2.2 dJ0_checkBoundsBeginEnd_23922_10
set_option maxHeartbeats 4000000 in
set_option maxRecDepth 100000 in
theorem m_J7_checkLength_df160_0 (l : Launch) (dC : Nat → ClassId) (dI : Nat → Nat → Nat) (sz : Nat) (zz : Nat → Nat) (k707 : Nat) (k708 : Nat)  (hi_k708 : k708 ≤ 2147483647) (c1 : k707 ≤ k708) : Met l yJ7_checkLength_df160 wsJ7_checkLength_df160 ({ frames := 0, cells := 0, slots := 0, locals := 0 }) (va_Pc [.int (nI k707), .int (nI k708)] (fun U => U.heap.size = sz ∧ va_P (dC, dI) vwCl [] U.heap ∧ va_K (dC, dI) vwCl [] U ∧ va_D (fun _ => True) [] ∧ SR zz (va_A [] sz) U U.heap)) (va_Qv (fun (_ : Unit) => True) (fun (u : Unit) t => match u with | () => va_P (dC, dI) vwCl [] t.heap ∧ va_K (dC, dI) vwCl [] t ∧ va_D (va_A [] sz) []) (va_A [] sz)) 0 0 (va_A [] sz) := by
  refine Met.ofW (cc := cJ7_checkLength_df160) (maxL := 2) (ret := none) (by decide) rfl ?_
  intro p e s m args below meth c s₁ B hml hv
  obtain ⟨rfl, hsz, hP, hK, hD0, hZ⟩ := hv
  have hx := B.exec
  have hb := B.bytes
  have hr := B.returns
  have hts := atoms_spec (ws := wsJ7_checkLength_df160) B.pre
  have hown : s.vm.findClass RJ7 = some m.cls := findClass_of_methodNamed B.named
  have hlocks := B.notSynchronized
  subst hsz
  have hD := hD0.self (sz := s.heap.size)
  generalize hAe : va_A [] s.heap.size = A at hD hZ ⊢
  have hA : ∀ q : Nat, s.heap.size ≤ q → A q := fun q h => by rw [← hAe]; exact Or.inr h
  have hS : va_S A s.heap s.heap [] := va_S.rf
  have hl := lv_entry ([.int (nI k707), .int (nI k708)]) (n := 2) (Nat.le_of_ble_eq_true rfl)
  rw [lg_entry_eq]
  generalize (lg_sl ([.int (nI k707), .int (nI k708)]) ++ List.replicate (2 - (lg_sl ([.int (nI k707), .int (nI k708)])).length) Slot.unset).toArray = ls at hl ⊢
  have hl : lv_has ls 2 [(0, .int (nI k707)), (1, .int (nI k708))] := hl
  refine lv_iload_n hx hb dJ7_checkLength_df160_0 rfl (lv_at hl 1 rfl) ?_
  refine lv_iload_n hx hb dJ7_checkLength_df160_1 rfl (lv_at hl 0 rfl) ?_
  refine lv_icmp_ge (tgt := 37) hx hb dJ7_checkLength_df160_2 (by decide) (fun _ => ?_) (fun cx => absurd (nI_le (a := k707) (b := k708) c1 (by omega)) cx)
  have hP9 := hP.sub (ws' := []) [] rfl
  have hD9 := hD.sub (ws' := []) [] (by decide) rfl
  have hK9 := hK.sub (tys' := []) [] rfl
  exact W.vret hx hb hr (fun t ht hW => ⟨⟨(), rfl, trivial, by rw [ht]; exact hP9, va_K.moved hW.alike hK9, hD9⟩, hS.F ht⟩) hS.2.2 dJ7_checkLength_df160_37
set_option maxHeartbeats 4000000 in
set_option maxRecDepth 100000 in
theorem m_J7_copyOfRangeByte_39247_0 (l : Launch) (dC : Nat → ClassId) (dI : Nat → Nat → Nat) (sz : Nat) (zz : Nat → Nat) (k705 : Nat) (k706 : Nat)  (hi_k706 : k706 ≤ 2147483647)  (hi_k705 : k705 ≤ 249) (c1 : k705 ≤ k706) (c2 : k706 - k705 ≤ 260) (c3 : k706 - k705 ≤ 249 - k705) (c4 : 249 - k705 < 2147483648) : Met l yJ7_copyOfRangeByte_39247 wsJ7_copyOfRangeByte_39247 ({ frames := 1, cells := 1, slots := 260, locals := 208 }) (va_Pc [.ref (zz 101), .int (nI k705), .int (nI k706)] (fun U => U.heap.size = sz ∧ va_P (dC, dI) vwCl [] U.heap ∧ va_K (dC, dI) vwCl [] U ∧ va_D (fun _ => True) [] ∧ SR zz (va_A [] sz) U U.heap)) (va_Qr (fun (_ : ClassId) => True) (fun (u : ClassId) (q710 : Nat) t => match u with | cA711 => va_P (dC, dI) vwCl [(q710, .inl (cA711, k706 - k705, .inl (va_cpy (fun j => sk_b0.getD j 0) (fun _ => 0) (nI k705 : Int32).toNatClampNeg (0 : Int32).toNatClampNeg (nI (k706 - k705) : Int32).toNatClampNeg)))] t.heap ∧ va_K (dC, dI) vwCl [(cA711, .byte)] t ∧ va_D (va_A [] sz) [(q710, .inl (cA711, k706 - k705, .inl (va_cpy (fun j => sk_b0.getD j 0) (fun _ => 0) (nI k705 : Int32).toNatClampNeg (0 : Int32).toNatClampNeg (nI (k706 - k705) : Int32).toNatClampNeg)))]) (va_A [] sz)) 1 260 (va_A [] sz) := by
  refine Met.ofW (cc := cJ7_copyOfRangeByte_39247) (maxL := 5) (ret := (some (.array .byte))) (by decide) rfl ?_
  intro p e s m args below meth c s₁ B hml hv
  obtain ⟨rfl, hsz, hP, hK, hD0, hZ⟩ := hv
  have hx := B.exec
  have hb := B.bytes
  have hr := B.returns
  have hts := atoms_spec (ws := wsJ7_copyOfRangeByte_39247) B.pre
  have hown : s.vm.findClass RJ7 = some m.cls := findClass_of_methodNamed B.named
  have hlocks := B.notSynchronized
  subst hsz
  have hD := hD0.self (sz := s.heap.size)
  generalize hAe : va_A [] s.heap.size = A at hD hZ ⊢
  have hA : ∀ q : Nat, s.heap.size ≤ q → A q := fun q h => by rw [← hAe]; exact Or.inr h
  have hS : va_S A s.heap s.heap [] := va_S.rf
  have hl := lv_entry ([.ref (zz 101), .int (nI k705), .int (nI k706)]) (n := 5) (Nat.le_of_ble_eq_true rfl)
  rw [lg_entry_eq]
  generalize (lg_sl ([.ref (zz 101), .int (nI k705), .int (nI k706)]) ++ List.replicate (5 - (lg_sl ([.ref (zz 101), .int (nI k705), .int (nI k706)])).length) Slot.unset).toArray = ls at hl ⊢
  have hl : lv_has ls 5 [(0, .ref (zz 101)), (1, .int (nI k705)), (2, .int (nI k706))] := hl
  refine lv_iload_n hx hb dJ7_copyOfRangeByte_39247_0 rfl (lv_at hl 1 rfl) ?_
  refine lv_iload_n hx hb dJ7_copyOfRangeByte_39247_1 rfl (lv_at hl 2 rfl) ?_
  have hPc := hP.sub (ws' := []) [] rfl
  have hDc := hD.sub (ws' := []) [] (by decide) rfl
  have hKc := hK.sub (tys' := []) [] rfl
  have hFc := va_free (wc := []) hD hS hA [] rfl
  refine va_callv (va_runS (As := [.int (nI k705), .int (nI k706)]) (rest := []) ⟨hx, hb, hml, hown, hts⟩ (m_J7_checkLength_df160_0 l dC dI s.heap.size zz k705 k706 (by omega) c1) (va_cwS 2 hts gJ7_copyOfRangeByte_39247_J7_checkLength_df160 rfl rfl rfl (by decide +kernel) ⟨Nat.le_of_ble_eq_true rfl, Nat.le_of_ble_eq_true rfl⟩) ⟨(fun a U g mk q => by obtain ⟨q0, q1, qP, qK, qD, qZ⟩ := q; exact ⟨q0, q1, qP, va_K.moved (u := U) (U := U.calling g mk a) (Vm.Alike.refl U.vm) qK, qD, SR.moved (u := U) (U := U.calling g mk a) (State.WarmedH.refl U) qZ⟩), (fun U hU hW => ⟨rfl, by rw [hU], by rw [hU]; exact hPc, va_K.moved hW.alike hKc, hDc.weaken (fun _ _ _ _ => trivial), by rw [hU]; exact SR.moved hW (SR.narrow (SR.kept hZ hS.2.1) hFc)⟩)⟩ rfl rfl hl.1 rfl (lv_room (Nat.le_of_ble_eq_true rfl)) dJ7_copyOfRangeByte_39247_2 ⟨(Nat.le_of_ble_eq_true rfl), (Nat.le_of_ble_eq_true rfl)⟩) hS (fun q _ h => hFc q h) hFc (fun u t H1 locs ht hvm hw hB hz1 hk1 hS => ?_)
  obtain ⟨hP1, hK1, hD1⟩ := hB
  rw [ht] at hP1
  have hK1 := va_K.moved hvm.symm hK1
  obtain ⟨hP, hD⟩ := va_join (wr := []) (w1 := []) hP hD [] [] rfl rfl (by decide) (by decide) hk1 hFc hP1 hD1
  generalize H1 = H at hP hS ⊢
  have hP : va_P (dC, dI) vwCl [] H := hP
  have hD : va_D A [] := hD
  refine W.widen (k := 0) (n := 0) (Nat.le_of_ble_eq_true rfl) (Nat.le_of_ble_eq_true rfl) ?_
  refine lv_iload_n hx hb dJ7_copyOfRangeByte_39247_5 rfl (lv_at hl 2 rfl) ?_
  refine lv_iload_n hx hb dJ7_copyOfRangeByte_39247_6 rfl (lv_at hl 1 rfl) ?_
  refine lv_isub hx hb dJ7_copyOfRangeByte_39247_7 ?_
  refine lv_topi (fun z709 ez709 => ?_)
  have ez709 : z709 = nI (k706 - k705) := ez709.trans (pk_sub c1)
  subst ez709
  refine lv_istore_n (lv' := [(3, .int (nI (k706 - k705))), (0, .ref (zz 101)), (1, .int (nI k705)), (2, .int (nI k706))]) hx hb dJ7_copyOfRangeByte_39247_8 rfl hl (by decide) rfl (fun ls hl => ?_)
  refine lv_iload_n hx hb dJ7_copyOfRangeByte_39247_9 rfl (lv_at hl 0 rfl) ?_
  have hub : k706 - k705 ≤ 260 := c2
  refine va_newa (atype := .byte) (a0 := (k706 - k705, .inl (fun _ => 0))) (N' := (k706 - k705)) hx hb (hts (.arrayClass .byte) (by decide +kernel)) rfl hK hP hD hS hA (fun _ => rfl) (nI_pos (by omega)) (nI_clamp (by omega)) (by show _ * 1 ≤ _; omega) (by show _ ≤ 1; omega) (by show _ ≤ 260; omega) dJ7_copyOfRangeByte_39247_10 (fun q710 cA711 H hK hP hD hS => ?_)
  have hK : va_K (dC, dI) vwCl [(cA711, .byte)] s := hK
  have hP : va_P (dC, dI) vwCl [(q710, .inl (cA711, k706 - k705, .inl (fun _ => 0)))] H := hP
  have hD : va_D A [(q710, .inl (cA711, k706 - k705, .inl (fun _ => 0)))] := hD
  refine W.widen (k := 1) (n := 260) (by omega) (by omega) ?_
  refine lv_astore (lv' := [(4, .ref q710), (3, .int (nI (k706 - k705))), (0, .ref (zz 101)), (1, .int (nI k705)), (2, .int (nI k706))]) hx hb dJ7_copyOfRangeByte_39247_12 hl (by decide) rfl (fun ls hl => ?_)
  refine lv_aload_n hx hb dJ7_copyOfRangeByte_39247_14 rfl (lv_at hl 2 rfl) ?_
  refine lv_iload_n hx hb dJ7_copyOfRangeByte_39247_15 rfl (lv_at hl 3 rfl) ?_
  refine lv_aload hx hb dJ7_copyOfRangeByte_39247_16 (lv_at hl 0 rfl) ?_
  refine lv_iconst (v := 0) hx hb dJ7_copyOfRangeByte_39247_18 (by decide) ?_
  refine lv_aload_n hx hb dJ7_copyOfRangeByte_39247_19 rfl (lv_at hl 2 rfl) ?_
  refine va_tlen (v := 249) hx hb (hZ.2.2.2.2.2.2.1.1 0 (by decide)).2.2.2 hS (by decide) dJ7_copyOfRangeByte_39247_20 ?_
  refine lv_iload_n hx hb dJ7_copyOfRangeByte_39247_21 rfl (lv_at hl 3 rfl) ?_
  refine lv_isub hx hb dJ7_copyOfRangeByte_39247_22 ?_
  refine lv_topi (fun z712 ez712 => ?_)
  have ez712 : z712 = nI (249 - k705) := ez712.trans (pk_sub (by omega))
  subst ez712
  refine lv_iload_n hx hb dJ7_copyOfRangeByte_39247_23 rfl (lv_at hl 1 rfl) ?_
  refine va_mmin hx hb (by rw [hml]; exact hl.1.symm) hown (hts (.methodLink RJ7 304 Lib.Math.min.name) (by decide +kernel)) (hts (.static Lib.Math.min.name) (by decide +kernel)) (hts (.initialized "java/lang/Math") (by decide +kernel)) (hts (.code Lib.Math.min.name Lib.Math.min.code 2 (some .int)) (by decide +kernel)) (Nat.le_of_ble_eq_true rfl) (Nat.le_of_ble_eq_true rfl) (by show _ ≤ 1; omega) (by show _ ≤ 260; omega) dJ7_copyOfRangeByte_39247_24 ?_
  refine lv_topi (fun z713 ez713 => ?_)
  have ez713 : z713 = nI (k706 - k705) := ez713.trans (mn_y (a := (249 - k705)) (b := (k706 - k705)) c3 c4)
  subst ez713
  refine vk_copyt (f := fun j => sk_b0.getD j 0) hx hb (by rw [hml]; exact hl.1.symm) hown (hts (.methodLink RJ7 150 arraycopyName) (by decide +kernel)) (hts (.native arraycopyName) (by decide +kernel)) (hts (.static arraycopyName) (by decide +kernel)) (hts (.initialized "java/lang/System") (by decide +kernel)) hK hP hD hS (n0 := 249) (hZ.2.2.2.2.2.2.1.1 0 (by decide)).2.2.2 0 0 rfl rfl (nI_pos (n := k705) (by omega)) (nI_pos (n := 0) (by omega)) (nI_pos (n := (k706 - k705)) (by omega)) (by rw [nI_clamp (n := k705) (by omega), nI_clamp (n := (k706 - k705)) (by omega)]; omega) (by rw [show (0 : Int32).toNatClampNeg = 0 from rfl, nI_clamp (n := (k706 - k705)) (by omega)]; omega) (fun _ _ => sk_fit sk_b0 (by decide) _) (Nat.le_of_ble_eq_true rfl) (Nat.le_of_ble_eq_true rfl) dJ7_copyOfRangeByte_39247_27 (fun H locs hP hD hS => ?_)
  have hP : va_P (dC, dI) vwCl [(q710, .inl (cA711, k706 - k705, .inl (va_cpy (fun j => sk_b0.getD j 0) (fun _ => 0) (nI k705 : Int32).toNatClampNeg (0 : Int32).toNatClampNeg (nI (k706 - k705) : Int32).toNatClampNeg)))] H := hP
  have hD : va_D A [(q710, .inl (cA711, k706 - k705, .inl (va_cpy (fun j => sk_b0.getD j 0) (fun _ => 0) (nI k705 : Int32).toNatClampNeg (0 : Int32).toNatClampNeg (nI (k706 - k705) : Int32).toNatClampNeg)))] := hD
  refine lv_aload hx hb dJ7_copyOfRangeByte_39247_30 (lv_at hl 0 rfl) ?_
  have hP9 := hP.sub (ws' := [(q710, .inl (cA711, k706 - k705, .inl (va_cpy (fun j => sk_b0.getD j 0) (fun _ => 0) (nI k705 : Int32).toNatClampNeg (0 : Int32).toNatClampNeg (nI (k706 - k705) : Int32).toNatClampNeg)))]) [0] rfl
  have hD9 := hD.sub (ws' := [(q710, .inl (cA711, k706 - k705, .inl (va_cpy (fun j => sk_b0.getD j 0) (fun _ => 0) (nI k705 : Int32).toNatClampNeg (0 : Int32).toNatClampNeg (nI (k706 - k705) : Int32).toNatClampNeg)))]) [0] (by decide) rfl
  have hK9 := hK.sub (tys' := [(cA711, .byte)]) [0] rfl
  exact W.aret (v := .ref q710) hx hb hr (Or.inr ⟨_, rfl⟩) (Or.inr ⟨_, rfl⟩) (fun t ht hW => ⟨⟨cA711, q710, rfl, trivial, by rw [ht]; exact hP9, va_K.moved hW.alike hK9, hD9⟩, hS.F ht⟩) hS.2.2 dJ7_copyOfRangeByte_39247_32
set_option maxHeartbeats 4000000 in
set_option maxRecDepth 100000 in
theorem m_J7_copyOfRange_39247_0 (l : Launch) (dC : Nat → ClassId) (dI : Nat → Nat → Nat) (sz : Nat) (zz : Nat → Nat) (k697 : Nat) (k698 : Nat)  (hi_k698 : k698 ≤ 248)  (hi_k697 : k697 ≤ 249) (c1 : k697 ≤ k698) (c2 : k698 - k697 ≤ 260) (c3 : k698 - k697 ≤ 249 - k697) (c4 : 249 - k697 < 2147483648) : Met l yJ7_copyOfRange_39247 wsJ7_copyOfRange_39247 ({ frames := 2, cells := 1, slots := 260, locals := 232 }) (va_Pc [.ref (zz 101), .int (nI k697), .int (nI k698)] (fun U => U.heap.size = sz ∧ va_P (dC, dI) vwCl [] U.heap ∧ va_K (dC, dI) vwCl [] U ∧ va_D (fun _ => True) [] ∧ SR zz (va_A [] sz) U U.heap)) (va_Qr (fun (_ : Unit) => True) (fun (u : Unit) (ra0 : Nat) t => match u with | () => va_P (dC, dI) vwCl [] t.heap ∧ va_K (dC, dI) vwCl [] t ∧ va_D (va_A [] sz) []) (va_A [] sz)) 1 260 (va_A [] sz) := by
  refine Met.ofW (cc := cJ7_copyOfRange_39247) (maxL := 3) (ret := (some (.array .byte))) (by decide) rfl ?_
  intro p e s m args below meth c s₁ B hml hv
  obtain ⟨rfl, hsz, hP, hK, hD0, hZ⟩ := hv
  have hx := B.exec
  have hb := B.bytes
  have hr := B.returns
  have hts := atoms_spec (ws := wsJ7_copyOfRange_39247) B.pre
  have hown : s.vm.findClass RJ7 = some m.cls := findClass_of_methodNamed B.named
  have hlocks := B.notSynchronized
  subst hsz
  have hD := hD0.self (sz := s.heap.size)
  generalize hAe : va_A [] s.heap.size = A at hD hZ ⊢
  have hA : ∀ q : Nat, s.heap.size ≤ q → A q := fun q h => by rw [← hAe]; exact Or.inr h
  have hS : va_S A s.heap s.heap [] := va_S.rf
  have hl := lv_entry ([.ref (zz 101), .int (nI k697), .int (nI k698)]) (n := 3) (Nat.le_of_ble_eq_true rfl)
  rw [lg_entry_eq]
  generalize (lg_sl ([.ref (zz 101), .int (nI k697), .int (nI k698)]) ++ List.replicate (3 - (lg_sl ([.ref (zz 101), .int (nI k697), .int (nI k698)])).length) Slot.unset).toArray = ls at hl ⊢
  have hl : lv_has ls 3 [(0, .ref (zz 101)), (1, .int (nI k697)), (2, .int (nI k698))] := hl
  refine lv_iload_n hx hb dJ7_copyOfRange_39247_0 rfl (lv_at hl 1 rfl) ?_
  refine lv_if_ne (tgt := 10) hx hb dJ7_copyOfRange_39247_1 (by decide) (fun cs699 => ?_) (fun cs699 => ?_)
  · refine lv_aload_n hx hb dJ7_copyOfRange_39247_10 rfl (lv_at hl 0 rfl) ?_
    refine lv_iload_n hx hb dJ7_copyOfRange_39247_11 rfl (lv_at hl 1 rfl) ?_
    refine lv_iload_n hx hb dJ7_copyOfRange_39247_12 rfl (lv_at hl 2 rfl) ?_
    have hPc := hP.sub (ws' := []) [] rfl
    have hDc := hD.sub (ws' := []) [] (by decide) rfl
    have hKc := hK.sub (tys' := []) [] rfl
    have hFc := va_free (wc := []) hD hS hA [] rfl
    refine va_callr (va_runS (As := [.ref (zz 101), .int (nI k697), .int (nI k698)]) (rest := []) ⟨hx, hb, hml, hown, hts⟩ (m_J7_copyOfRangeByte_39247_0 l dC dI s.heap.size zz k697 k698 (by omega) (by omega) c1 c2 c3 c4) (va_cwS 3 hts gJ7_copyOfRange_39247_J7_copyOfRangeByte_39247 rfl rfl rfl (by decide +kernel) ⟨Nat.le_of_ble_eq_true rfl, Nat.le_of_ble_eq_true rfl⟩) ⟨(fun a U g mk q => by obtain ⟨q0, q1, qP, qK, qD, qZ⟩ := q; exact ⟨q0, q1, qP, va_K.moved (u := U) (U := U.calling g mk a) (Vm.Alike.refl U.vm) qK, qD, SR.moved (u := U) (U := U.calling g mk a) (State.WarmedH.refl U) qZ⟩), (fun U hU hW => ⟨rfl, by rw [hU], by rw [hU]; exact hPc, va_K.moved hW.alike hKc, hDc.weaken (fun _ _ _ _ => trivial), by rw [hU]; exact SR.moved hW (SR.narrow (SR.kept hZ hS.2.1) hFc)⟩)⟩ rfl rfl hl.1 rfl (lv_room (Nat.le_of_ble_eq_true rfl)) dJ7_copyOfRange_39247_13 ⟨(Nat.le_of_ble_eq_true rfl), (Nat.le_of_ble_eq_true rfl)⟩) hS (fun q _ h => hFc q h) hFc (fun u ra t H1 locs ht hvm hw hB hz1 hk1 hS => ?_)
    obtain ⟨cA714, rfl⟩ : ∃ z, z = u := ⟨_, rfl⟩
    obtain ⟨q715, rfl⟩ : ∃ z, z = ra := ⟨_, rfl⟩
    obtain ⟨hP1, hK1, hD1⟩ := hB
    rw [ht] at hP1
    have hK1 := va_K.moved hvm.symm hK1
    obtain ⟨hP, hD⟩ := va_join (wr := []) (w1 := [(q715, .inl (cA714, k698 - k697, .inl (va_cpy (fun j => sk_b0.getD j 0) (fun _ => 0) (nI k697 : Int32).toNatClampNeg (0 : Int32).toNatClampNeg (nI (k698 - k697) : Int32).toNatClampNeg)))]) hP hD [] [] rfl rfl (by decide) (by decide) hk1 hFc hP1 hD1
    have hK := hK.app hK1
    have hK : va_K (dC, dI) vwCl [(cA714, .byte)] s := hK
    generalize H1 = H at hP hS ⊢
    have hP : va_P (dC, dI) vwCl [(q715, .inl (cA714, k698 - k697, .inl (va_cpy (fun j => sk_b0.getD j 0) (fun _ => 0) (nI k697 : Int32).toNatClampNeg (0 : Int32).toNatClampNeg (nI (k698 - k697) : Int32).toNatClampNeg)))] H := hP
    have hD : va_D A [(q715, .inl (cA714, k698 - k697, .inl (va_cpy (fun j => sk_b0.getD j 0) (fun _ => 0) (nI k697 : Int32).toNatClampNeg (0 : Int32).toNatClampNeg (nI (k698 - k697) : Int32).toNatClampNeg)))] := hD
    refine W.widen (k := 1) (n := 260) (Nat.le_of_ble_eq_true rfl) (Nat.le_of_ble_eq_true rfl) ?_
    refine W.widen (k := 1) (n := 260) (Nat.le_of_ble_eq_true rfl) (Nat.le_of_ble_eq_true rfl) ?_
    have hP9 := hP.sub (ws' := []) [] rfl
    have hD9 := hD.sub (ws' := []) [] (by decide) rfl
    have hK9 := hK.sub (tys' := []) [] rfl
    exact W.aret (v := .ref q715) hx hb hr (Or.inr ⟨_, rfl⟩) (Or.inr ⟨_, rfl⟩) (fun t ht hW => ⟨⟨(), q715, rfl, trivial, by rw [ht]; exact hP9, va_K.moved hW.alike hK9, hD9⟩, hS.F ht⟩) hS.2.2 dJ7_copyOfRange_39247_16
  · refine lv_iload_n hx hb dJ7_copyOfRange_39247_4 rfl (lv_at hl 2 rfl) ?_
    refine lv_aload_n hx hb dJ7_copyOfRange_39247_5 rfl (lv_at hl 0 rfl) ?_
    refine va_tlen (v := 249) hx hb (hZ.2.2.2.2.2.2.1.1 0 (by decide)).2.2.2 hS (by decide) dJ7_copyOfRange_39247_6 ?_
    refine lv_icmp_eq (tgt := 17) hx hb dJ7_copyOfRange_39247_7 (by decide) (fun cx => absurd cx (ni_ne (a := k698) (b := 249) (by omega) (by decide))) (fun _ => ?_)
    refine lv_aload_n hx hb dJ7_copyOfRange_39247_10 rfl (lv_at hl 0 rfl) ?_
    refine lv_iload_n hx hb dJ7_copyOfRange_39247_11 rfl (lv_at hl 1 rfl) ?_
    refine lv_iload_n hx hb dJ7_copyOfRange_39247_12 rfl (lv_at hl 2 rfl) ?_
    have hPc := hP.sub (ws' := []) [] rfl
    have hDc := hD.sub (ws' := []) [] (by decide) rfl
    have hKc := hK.sub (tys' := []) [] rfl
    have hFc := va_free (wc := []) hD hS hA [] rfl
    refine va_callr (va_runS (As := [.ref (zz 101), .int (nI k697), .int (nI k698)]) (rest := []) ⟨hx, hb, hml, hown, hts⟩ (m_J7_copyOfRangeByte_39247_0 l dC dI s.heap.size zz k697 k698 (by omega) (by omega) c1 c2 c3 c4) (va_cwS 3 hts gJ7_copyOfRange_39247_J7_copyOfRangeByte_39247 rfl rfl rfl (by decide +kernel) ⟨Nat.le_of_ble_eq_true rfl, Nat.le_of_ble_eq_true rfl⟩) ⟨(fun a U g mk q => by obtain ⟨q0, q1, qP, qK, qD, qZ⟩ := q; exact ⟨q0, q1, qP, va_K.moved (u := U) (U := U.calling g mk a) (Vm.Alike.refl U.vm) qK, qD, SR.moved (u := U) (U := U.calling g mk a) (State.WarmedH.refl U) qZ⟩), (fun U hU hW => ⟨rfl, by rw [hU], by rw [hU]; exact hPc, va_K.moved hW.alike hKc, hDc.weaken (fun _ _ _ _ => trivial), by rw [hU]; exact SR.moved hW (SR.narrow (SR.kept hZ hS.2.1) hFc)⟩)⟩ rfl rfl hl.1 rfl (lv_room (Nat.le_of_ble_eq_true rfl)) dJ7_copyOfRange_39247_13 ⟨(Nat.le_of_ble_eq_true rfl), (Nat.le_of_ble_eq_true rfl)⟩) hS (fun q _ h => hFc q h) hFc (fun u ra t H1 locs ht hvm hw hB hz1 hk1 hS => ?_)
    obtain ⟨cA723, rfl⟩ : ∃ z, z = u := ⟨_, rfl⟩
    obtain ⟨q724, rfl⟩ : ∃ z, z = ra := ⟨_, rfl⟩
    obtain ⟨hP1, hK1, hD1⟩ := hB
    rw [ht] at hP1
    have hK1 := va_K.moved hvm.symm hK1
    obtain ⟨hP, hD⟩ := va_join (wr := []) (w1 := [(q724, .inl (cA723, k698 - k697, .inl (va_cpy (fun j => sk_b0.getD j 0) (fun _ => 0) (nI k697 : Int32).toNatClampNeg (0 : Int32).toNatClampNeg (nI (k698 - k697) : Int32).toNatClampNeg)))]) hP hD [] [] rfl rfl (by decide) (by decide) hk1 hFc hP1 hD1
    have hK := hK.app hK1
    have hK : va_K (dC, dI) vwCl [(cA723, .byte)] s := hK
    generalize H1 = H at hP hS ⊢
    have hP : va_P (dC, dI) vwCl [(q724, .inl (cA723, k698 - k697, .inl (va_cpy (fun j => sk_b0.getD j 0) (fun _ => 0) (nI k697 : Int32).toNatClampNeg (0 : Int32).toNatClampNeg (nI (k698 - k697) : Int32).toNatClampNeg)))] H := hP
    have hD : va_D A [(q724, .inl (cA723, k698 - k697, .inl (va_cpy (fun j => sk_b0.getD j 0) (fun _ => 0) (nI k697 : Int32).toNatClampNeg (0 : Int32).toNatClampNeg (nI (k698 - k697) : Int32).toNatClampNeg)))] := hD
    refine W.widen (k := 1) (n := 260) (Nat.le_of_ble_eq_true rfl) (Nat.le_of_ble_eq_true rfl) ?_
    refine W.widen (k := 1) (n := 260) (Nat.le_of_ble_eq_true rfl) (Nat.le_of_ble_eq_true rfl) ?_
    have hP9 := hP.sub (ws' := []) [] rfl
    have hD9 := hD.sub (ws' := []) [] (by decide) rfl
    have hK9 := hK.sub (tys' := []) [] rfl
    exact W.aret (v := .ref q724) hx hb hr (Or.inr ⟨_, rfl⟩) (Or.inr ⟨_, rfl⟩) (fun t ht hW => ⟨⟨(), q724, rfl, trivial, by rw [ht]; exact hP9, va_K.moved hW.alike hK9, hD9⟩, hS.F ht⟩) hS.2.2 dJ7_copyOfRange_39247_16
set_option maxHeartbeats 4000000 in
set_option maxRecDepth 100000 in
theorem m_J0_init_031fb_0 (l : Launch) (dC : Nat → ClassId) (dI : Nat → Nat → Nat) (sz : Nat) (zz : Nat → Nat) (h726 : Nat) (h727 : Nat) (v728 : Value) (v729 : Value)   : Met l yJ0_init_031fb wsJ0_init_031fb ({ frames := 1, cells := 0, slots := 0, locals := 12 }) (va_Pc [.ref h726, .ref h727, .int 0] (fun U => U.heap.size = sz ∧ va_P (dC, dI) vwCl [(h726, .inr (0, [.null, .int 0, v728, v729]))] U.heap ∧ va_K (dC, dI) vwCl [] U ∧ va_D (fun _ => True) [(h726, .inr (0, [.null, .int 0, v728, v729]))] ∧ SR zz (va_A [(h726, .inr (0, [.null, .int 0, v728, v729]))] sz) U U.heap)) (va_Qv (fun (_ : Unit) => True) (fun (u : Unit) t => match u with | () => va_P (dC, dI) vwCl [(h726, .inr (0, [.ref h727, .int 0, v728, v729]))] t.heap ∧ va_K (dC, dI) vwCl [] t ∧ va_D (va_A [(h726, .inr (0, [.null, .int 0, v728, v729]))] sz) [(h726, .inr (0, [.ref h727, .int 0, v728, v729]))]) (va_A [(h726, .inr (0, [.null, .int 0, v728, v729]))] sz)) 0 0 (va_A [(h726, .inr (0, [.null, .int 0, v728, v729]))] sz) := by
  refine Met.ofW (cc := cJ0_init_031fb) (maxL := 3) (ret := none) (by decide) rfl ?_
  intro p e s m args below meth c s₁ B hml hv
  obtain ⟨rfl, hsz, hP, hK, hD0, hZ⟩ := hv
  have hx := B.exec
  have hb := B.bytes
  have hr := B.returns
  have hts := atoms_spec (ws := wsJ0_init_031fb) B.pre
  have hown : s.vm.findClass RJ0 = some m.cls := findClass_of_methodNamed B.named
  have hlocks := B.notSynchronized
  have hin : meth.name = "<init>" := (name_of_methodNamed B.named B.method).1
  have hinJ0 : ∀ w ∈ wsJ00, w ∈ wsJ0_init_031fb := fun w h => List.mem_cons_of_mem _ (List.mem_append_right _ (h))
  subst hsz
  have hD := hD0.self (sz := s.heap.size)
  generalize hAe : va_A [(h726, .inr (0, [.null, .int 0, v728, v729]))] s.heap.size = A at hD hZ ⊢
  have hA : ∀ q : Nat, s.heap.size ≤ q → A q := fun q h => by rw [← hAe]; exact Or.inr h
  have hS : va_S A s.heap s.heap [] := va_S.rf
  have hl := lv_entry ([.ref h726, .ref h727, .int 0]) (n := 3) (Nat.le_of_ble_eq_true rfl)
  rw [lg_entry_eq]
  generalize (lg_sl ([.ref h726, .ref h727, .int 0]) ++ List.replicate (3 - (lg_sl ([.ref h726, .ref h727, .int 0])).length) Slot.unset).toArray = ls at hl ⊢
  have hl : lv_has ls 3 [(0, .ref h726), (1, .ref h727), (2, .int 0)] := hl
  refine lv_aload_n hx hb dJ0_init_031fb_0 rfl (lv_at hl 0 rfl) ?_
  refine W.objInit hx hb hown (hts (.methodLink RJ0 1 objectInit) (by decide +kernel)) (hts (.instanceMethod objectInit) (by decide +kernel)) (hts (.code objectInit ⟨#[0xb1]⟩ 1 none) (by decide +kernel)) rfl (by rw [hml]; exact hl.1) rfl dJ0_init_031fb_1 (Nat.le_of_ble_eq_true rfl) (Nat.le_of_ble_eq_true rfl) ?_
  refine W.eq (g2 := F0 m 4 ls []) rfl ?_
  refine lv_aload_n hx hb dJ0_init_031fb_4 rfl (lv_at hl 0 rfl) ?_
  refine lv_aload_n hx hb dJ0_init_031fb_5 rfl (lv_at hl 1 rfl) ?_
  refine va_putF (D := (dC, dI)) (ci := 0) (v := .ref h727) (ty := (.array .byte)) (C := RJ0) (T := TJ0) (N := 4) hx hb hts hinJ0 tyJ0 tyJ0_ok nmJ0 hown hK hP hD hS 0 rfl rfl 0 (by decide) (hts (.fieldLink RJ0 9 "java/lang/String" "value" "[B") (by decide +kernel)) (fun _ h9 => h9) rfl hin rfl (by decide +kernel) rfl rfl (Nat.le_of_ble_eq_true rfl) dJ0_init_031fb_6 (fun H locs hP hD hS => ?_)
  have hP : va_P (dC, dI) vwCl [(h726, .inr (0, [.ref h727, .int 0, v728, v729]))] H := hP
  have hD : va_D A [(h726, .inr (0, [.ref h727, .int 0, v728, v729]))] := hD
  refine lv_aload_n hx hb dJ0_init_031fb_9 rfl (lv_at hl 0 rfl) ?_
  refine lv_iload_n hx hb dJ0_init_031fb_10 rfl (lv_at hl 2 rfl) ?_
  refine va_putF (D := (dC, dI)) (ci := 0) (v := .int 0) (ty := .byte) (C := RJ0) (T := TJ0) (N := 4) hx hb hts hinJ0 tyJ0 tyJ0_ok nmJ0 hown hK hP hD hS 0 rfl rfl 1 (by decide) (hts (.fieldLink RJ0 15 "java/lang/String" "coder" "B") (by decide +kernel)) (fun _ h9 => h9) rfl hin rfl (by decide +kernel) rfl rfl (Nat.le_of_ble_eq_true rfl) dJ0_init_031fb_11 (fun H locs hP hD hS => ?_)
  have hP : va_P (dC, dI) vwCl [(h726, .inr (0, [.ref h727, .int 0, v728, v729]))] H := hP
  have hD : va_D A [(h726, .inr (0, [.ref h727, .int 0, v728, v729]))] := hD
  have hP9 := hP.sub (ws' := [(h726, .inr (0, [.ref h727, .int 0, v728, v729]))]) [0] rfl
  have hD9 := hD.sub (ws' := [(h726, .inr (0, [.ref h727, .int 0, v728, v729]))]) [0] (by decide) rfl
  have hK9 := hK.sub (tys' := []) [] rfl
  exact W.vret hx hb hr (fun t ht hW => ⟨⟨(), rfl, trivial, by rw [ht]; exact hP9, va_K.moved hW.alike hK9, hD9⟩, hS.F ht⟩) hS.2.2 dJ0_init_031fb_14
set_option maxHeartbeats 4000000 in
set_option maxRecDepth 100000 in
theorem m_J1_newString_b4f7a_0 (l : Launch) (dC : Nat → ClassId) (dI : Nat → Nat → Nat) (sz : Nat) (zz : Nat → Nat) (k687 : Nat) (k688 : Nat)  (hi_k687 : k687 ≤ 249) (c1 : k687 ≤ (k687 + k688)) (c2 : (k687 + k688) - k687 ≤ 260) (c3 : (k687 + k688) - k687 ≤ 249 - k687) (c4 : 249 - k687 < 2147483648) (c5 : (k687 + k688) ≤ 248) : Met l yJ1_newString_b4f7a wsJ1_newString_b4f7a ({ frames := 3, cells := 2, slots := 264, locals := 254 }) (va_Pc [.ref (zz 101), .int (nI k687), .int (nI k688)] (fun U => U.heap.size = sz ∧ va_P (dC, dI) vwCl [] U.heap ∧ va_K (dC, dI) vwCl [] U ∧ va_D (fun _ => True) [] ∧ SR zz (va_A [] sz) U U.heap)) (va_Qr (fun (_ : Unit) => True) (fun (u : Unit) (ra0 : Nat) t => match u with | () => va_P (dC, dI) vwCl [] t.heap ∧ va_K (dC, dI) vwCl [] t ∧ va_D (va_A [] sz) []) (va_A [] sz)) 2 264 (va_A [] sz) := by
  refine Met.ofW (cc := cJ1_newString_b4f7a) (maxL := 3) (ret := (some (.object "java/lang/String"))) (by decide) rfl ?_
  intro p e s m args below meth c s₁ B hml hv
  obtain ⟨rfl, hsz, hP, hK, hD0, hZ⟩ := hv
  have hx := B.exec
  have hb := B.bytes
  have hr := B.returns
  have hts := atoms_spec (ws := wsJ1_newString_b4f7a) B.pre
  have hown : s.vm.findClass RJ1 = some m.cls := findClass_of_methodNamed B.named
  have hlocks := B.notSynchronized
  have hinJ0 : ∀ w ∈ wsJ00, w ∈ wsJ1_newString_b4f7a := fun w h => List.mem_cons_of_mem _ (List.mem_append_right _ (h))
  subst hsz
  have hD := hD0.self (sz := s.heap.size)
  generalize hAe : va_A [] s.heap.size = A at hD hZ ⊢
  have hA : ∀ q : Nat, s.heap.size ≤ q → A q := fun q h => by rw [← hAe]; exact Or.inr h
  have hS : va_S A s.heap s.heap [] := va_S.rf
  have hl := lv_entry ([.ref (zz 101), .int (nI k687), .int (nI k688)]) (n := 3) (Nat.le_of_ble_eq_true rfl)
  rw [lg_entry_eq]
  generalize (lg_sl ([.ref (zz 101), .int (nI k687), .int (nI k688)]) ++ List.replicate (3 - (lg_sl ([.ref (zz 101), .int (nI k687), .int (nI k688)])).length) Slot.unset).toArray = ls at hl ⊢
  have hl : lv_has ls 3 [(0, .ref (zz 101)), (1, .int (nI k687)), (2, .int (nI k688))] := hl
  refine lv_iload_n hx hb dJ1_newString_b4f7a_0 rfl (lv_at hl 2 rfl) ?_
  refine lv_if_ne (tgt := 7) hx hb dJ1_newString_b4f7a_1 (by decide) (fun cs689 => ?_) (fun cs689 => ?_)
  · refine va_new (ci := 0) (fs := [.null, .int 0, .int 0, .int 0]) (C := RJ0) (T := TJ0) (N := 4) hx hb hts hinJ0 tyJ0 tyJ0_ok hown (hts (.classLink RJ1 1 RJ0) (by decide +kernel)) (hts (.instantiable RJ0 4) (by decide +kernel)) (hts (.initialized RJ0) (by decide +kernel)) hK hP hD hS hA rfl (fun j hj => by rcases (show j = 0 ∨ j = 1 ∨ j = 2 ∨ j = 3 by omega) with rfl | rfl | rfl | rfl <;> rfl) (Nat.le_of_ble_eq_true rfl) (Nat.le_of_ble_eq_true rfl) dJ1_newString_b4f7a_7 (fun q690 H hP hD hS => ?_)
    have hP : va_P (dC, dI) vwCl [(q690, .inr (0, [.null, .int 0, .int 0, .int 0]))] H := hP
    have hD : va_D A [(q690, .inr (0, [.null, .int 0, .int 0, .int 0]))] := hD
    refine W.widen (k := 1) (n := 4) (Nat.le_of_ble_eq_true rfl) (Nat.le_of_ble_eq_true rfl) ?_
    refine lv_dup hx hb dJ1_newString_b4f7a_10 rfl ?_
    refine lv_aload_n hx hb dJ1_newString_b4f7a_11 rfl (lv_at hl 0 rfl) ?_
    refine lv_iload_n hx hb dJ1_newString_b4f7a_12 rfl (lv_at hl 1 rfl) ?_
    refine lv_iload_n hx hb dJ1_newString_b4f7a_13 rfl (lv_at hl 1 rfl) ?_
    refine lv_iload_n hx hb dJ1_newString_b4f7a_14 rfl (lv_at hl 2 rfl) ?_
    refine lv_iadd hx hb dJ1_newString_b4f7a_15 ?_
    refine lv_topi (fun z691 ez691 => ?_)
    have ez691 : z691 = nI (k687 + k688) := ez691.trans (nI_add k687 k688)
    subst ez691
    have hPc := hP.sub (ws' := []) [] rfl
    have hDc := hD.sub (ws' := []) [] (by decide) rfl
    have hKc := hK.sub (tys' := []) [] rfl
    have hFc := va_free (wc := []) hD hS hA [] rfl
    refine va_callr (va_runS (As := [.ref (zz 101), .int (nI k687), .int (nI (k687 + k688))]) (rest := [.ref q690, .ref q690]) ⟨hx, hb, hml, hown, hts⟩ (m_J7_copyOfRange_39247_0 l dC dI H.size zz k687 (k687 + k688) c5 (by omega) c1 c2 c3 c4) (va_cwS 3 hts gJ1_newString_b4f7a_J7_copyOfRange_39247 rfl rfl rfl (by decide +kernel) ⟨Nat.le_of_ble_eq_true rfl, Nat.le_of_ble_eq_true rfl⟩) ⟨(fun a U g mk q => by obtain ⟨q0, q1, qP, qK, qD, qZ⟩ := q; exact ⟨q0, q1, qP, va_K.moved (u := U) (U := U.calling g mk a) (Vm.Alike.refl U.vm) qK, qD, SR.moved (u := U) (U := U.calling g mk a) (State.WarmedH.refl U) qZ⟩), (fun U hU hW => ⟨rfl, by rw [hU], by rw [hU]; exact hPc, va_K.moved hW.alike hKc, hDc.weaken (fun _ _ _ _ => trivial), by rw [hU]; exact SR.moved hW (SR.narrow (SR.kept hZ hS.2.1) hFc)⟩)⟩ rfl rfl hl.1 rfl (lv_room (Nat.le_of_ble_eq_true rfl)) dJ1_newString_b4f7a_16 ⟨(Nat.le_of_ble_eq_true rfl), (Nat.le_of_ble_eq_true rfl)⟩) hS (fun q _ h => hFc q h) hFc (fun u ra t H1 locs ht hvm hw hB hz1 hk1 hS => ?_)
    obtain ⟨q725, rfl⟩ : ∃ z, z = ra := ⟨_, rfl⟩
    obtain ⟨hP1, hK1, hD1⟩ := hB
    rw [ht] at hP1
    have hK1 := va_K.moved hvm.symm hK1
    obtain ⟨hP, hD⟩ := va_join (wr := [(q690, .inr (0, [.null, .int 0, .int 0, .int 0]))]) (w1 := []) hP hD [] [0] rfl rfl (by decide) (by decide) hk1 hFc hP1 hD1
    generalize H1 = H at hP hS ⊢
    have hP : va_P (dC, dI) vwCl [(q690, .inr (0, [.null, .int 0, .int 0, .int 0]))] H := hP
    have hD : va_D A [(q690, .inr (0, [.null, .int 0, .int 0, .int 0]))] := hD
    refine W.widen (k := 2) (n := 264) (Nat.le_of_ble_eq_true rfl) (Nat.le_of_ble_eq_true rfl) ?_
    refine lv_iconst (v := 0) hx hb dJ1_newString_b4f7a_19 (by decide) ?_
    have hPc := hP.sub (ws' := [(q690, .inr (0, [.null, .int 0, .int 0, .int 0]))]) [0] rfl
    have hDc := hD.sub (ws' := [(q690, .inr (0, [.null, .int 0, .int 0, .int 0]))]) [0] (by decide) rfl
    have hKc := hK.sub (tys' := []) [] rfl
    have hFc := va_free (wc := [(q690, .inr (0, [.null, .int 0, .int 0, .int 0]))]) hD hS hA [0] rfl
    refine va_callv (va_runI (As := [.ref q725, .int 0]) (rest := [.ref q690]) ⟨hx, hb, hml, hown, hts⟩ (m_J0_init_031fb_0 l dC dI H.size zz q690 q725 (.int 0) (.int 0)) (cwI 2 hts gJ1_newString_b4f7a_J0_init_031fb rfl rfl rfl (hts (.initialized RJ0) (by decide +kernel)) (hts (.methodLink RJ1 112 yJ0_init_031fb) (by decide +kernel)) (hts (.instanceMethod yJ0_init_031fb) (by decide +kernel)) rfl (by decide +kernel) ⟨Nat.le_of_ble_eq_true rfl, Nat.le_of_ble_eq_true rfl⟩) ⟨(fun a U g mk q => by obtain ⟨q0, q1, qP, qK, qD, qZ⟩ := q; exact ⟨q0, q1, qP, va_K.moved (u := U) (U := U.calling g mk a) (Vm.Alike.refl U.vm) qK, qD, SR.moved (u := U) (U := U.calling g mk a) (State.WarmedH.refl U) qZ⟩), (fun U hU hW => ⟨rfl, by rw [hU], by rw [hU]; exact hPc, va_K.moved hW.alike hKc, hDc.weaken (fun _ _ _ _ => trivial), by rw [hU]; exact SR.moved hW (SR.narrow (SR.kept hZ hS.2.1) hFc)⟩)⟩ rfl rfl hl.1 rfl (lv_room (Nat.le_of_ble_eq_true rfl)) dJ1_newString_b4f7a_20 ⟨(Nat.le_of_ble_eq_true rfl), (Nat.le_of_ble_eq_true rfl)⟩) hS (fun q _ h => hFc q h) hFc (fun u t H1 locs ht hvm hw hB hz1 hk1 hS => ?_)
    obtain ⟨hP1, hK1, hD1⟩ := hB
    rw [ht] at hP1
    have hK1 := va_K.moved hvm.symm hK1
    obtain ⟨hP, hD⟩ := va_join (wr := []) (w1 := [(q690, .inr (0, [.ref q725, .int 0, .int 0, .int 0]))]) hP hD [0] [] rfl rfl (by decide) (by decide) hk1 hFc hP1 hD1
    generalize H1 = H at hP hS ⊢
    have hP : va_P (dC, dI) vwCl [(q690, .inr (0, [.ref q725, .int 0, .int 0, .int 0]))] H := hP
    have hD : va_D A [(q690, .inr (0, [.ref q725, .int 0, .int 0, .int 0]))] := hD
    refine W.widen (k := 2) (n := 264) (Nat.le_of_ble_eq_true rfl) (Nat.le_of_ble_eq_true rfl) ?_
    refine W.widen (k := 2) (n := 264) (Nat.le_of_ble_eq_true rfl) (Nat.le_of_ble_eq_true rfl) ?_
    have hP9 := hP.sub (ws' := []) [] rfl
    have hD9 := hD.sub (ws' := []) [] (by decide) rfl
    have hK9 := hK.sub (tys' := []) [] rfl
    exact W.aret (v := .ref q690) hx hb hr (Or.inl ⟨_, rfl⟩) (Or.inr ⟨_, rfl⟩) (fun t ht hW => ⟨⟨(), q690, rfl, trivial, by rw [ht]; exact hP9, va_K.moved hW.alike hK9, hD9⟩, hS.F ht⟩) hS.2.2 dJ1_newString_b4f7a_23
  · refine va_ldcS hx hb hown (hZ.2.2.2.2.2.2.2.1 ("java/lang/StringLatin1", 151, "", 1) (by decide +kernel)) dJ1_newString_b4f7a_4 ?_
    refine W.widen (k := 2) (n := 264) (Nat.le_of_ble_eq_true rfl) (Nat.le_of_ble_eq_true rfl) ?_
    have hP9 := hP.sub (ws' := []) [] rfl
    have hD9 := hD.sub (ws' := []) [] (by decide) rfl
    have hK9 := hK.sub (tys' := []) [] rfl
    exact W.aret (v := .ref (zz 102)) hx hb hr (Or.inl ⟨_, rfl⟩) (Or.inr ⟨_, rfl⟩) (fun t ht hW => ⟨⟨(), (zz 102), rfl, trivial, by rw [ht]; exact hP9, va_K.moved hW.alike hK9, hD9⟩, hS.F ht⟩) hS.2.2 dJ1_newString_b4f7a_6
set_option maxHeartbeats 4000000 in
set_option maxRecDepth 100000 in
theorem m_J0_substring_37a41_0 (l : Launch) (dC : Nat → ClassId) (dI : Nat → Nat → Nat) (sz : Nat) (zz : Nat → Nat) (k671 : Nat) (k672 : Nat)  (hi_k671 : k671 ≤ 249)  (hi_k672 : k672 ≤ 248) (c1 : k671 ≤ k672) (c2 : k671 ≤ (k671 + (k672 - k671))) (c3 : (k671 + (k672 - k671)) - k671 ≤ 260) (c4 : (k671 + (k672 - k671)) - k671 ≤ 249 - k671) (c5 : 249 - k671 < 2147483648) (c6 : (k671 + (k672 - k671)) ≤ 248) : Met l yJ0_substring_37a41 wsJ0_substring_37a41 ({ frames := 4, cells := 2, slots := 264, locals := 276 }) (va_Pc [.ref (zz 100), .int (nI k671), .int (nI k672)] (fun U => U.heap.size = sz ∧ va_P (dC, dI) vwCl [] U.heap ∧ va_K (dC, dI) vwCl [] U ∧ va_D (fun _ => True) [] ∧ SR zz (va_A [] sz) U U.heap)) (va_Qr (fun (_ : Unit) => True) (fun (u : Unit) (ra0 : Nat) t => match u with | () => va_P (dC, dI) vwCl [] t.heap ∧ va_K (dC, dI) vwCl [] t ∧ va_D (va_A [] sz) []) (va_A [] sz)) 2 264 (va_A [] sz) := by
  refine Met.ofW (cc := cJ0_substring_37a41) (maxL := 5) (ret := (some (.object "java/lang/String"))) (by decide) rfl ?_
  intro p e s m args below meth c s₁ B hml hv
  obtain ⟨rfl, hsz, hP, hK, hD0, hZ⟩ := hv
  have hx := B.exec
  have hb := B.bytes
  have hr := B.returns
  have hts := atoms_spec (ws := wsJ0_substring_37a41) B.pre
  have hown : s.vm.findClass RJ0 = some m.cls := findClass_of_methodNamed B.named
  have hlocks := B.notSynchronized
  subst hsz
  have hD := hD0.self (sz := s.heap.size)
  generalize hAe : va_A [] s.heap.size = A at hD hZ ⊢
  have hA : ∀ q : Nat, s.heap.size ≤ q → A q := fun q h => by rw [← hAe]; exact Or.inr h
  have hS : va_S A s.heap s.heap [] := va_S.rf
  have hl := lv_entry ([.ref (zz 100), .int (nI k671), .int (nI k672)]) (n := 5) (Nat.le_of_ble_eq_true rfl)
  rw [lg_entry_eq]
  generalize (lg_sl ([.ref (zz 100), .int (nI k671), .int (nI k672)]) ++ List.replicate (5 - (lg_sl ([.ref (zz 100), .int (nI k671), .int (nI k672)])).length) Slot.unset).toArray = ls at hl ⊢
  have hl : lv_has ls 5 [(0, .ref (zz 100)), (1, .int (nI k671)), (2, .int (nI k672))] := hl
  refine lv_aload_n hx hb dJ0_substring_37a41_0 rfl (lv_at hl 0 rfl) ?_
  have hPc := hP.sub (ws' := []) [] rfl
  have hDc := hD.sub (ws' := []) [] (by decide) rfl
  have hKc := hK.sub (tys' := []) [] rfl
  have hFc := va_free (wc := []) hD hS hA [] rfl
  refine va_calli (va_runV (As := []) (rest := []) ⟨hx, hb, hml, hown, hts⟩ (m_J0_length_8abf5_0 l dC dI s.heap.size zz ) (cwV 0 hts gJ0_substring_37a41_J0_length_8abf5 rfl rfl rfl (by decide +kernel) ⟨Nat.le_of_ble_eq_true rfl, Nat.le_of_ble_eq_true rfl⟩) ⟨(fun a U g mk q => by obtain ⟨q0, q1, qP, qK, qD, qZ⟩ := q; exact ⟨q0, q1, qP, va_K.moved (u := U) (U := U.calling g mk a) (Vm.Alike.refl U.vm) qK, qD, SR.moved (u := U) (U := U.calling g mk a) (State.WarmedH.refl U) qZ⟩), vk_recv hZ.2.2.2.2.2.2.1 (i := 0) (by decide) hS, (fun U hU hW => ⟨rfl, by rw [hU], by rw [hU]; exact hPc, va_K.moved hW.alike hKc, hDc.weaken (fun _ _ _ _ => trivial), by rw [hU]; exact SR.moved hW (SR.narrow (SR.kept hZ hS.2.1) hFc)⟩)⟩ rfl rfl hl.1 rfl (lv_room (Nat.le_of_ble_eq_true rfl)) dJ0_substring_37a41_1 ⟨(Nat.le_of_ble_eq_true rfl), (Nat.le_of_ble_eq_true rfl)⟩) hS (fun q _ h => hFc q h) hFc (fun ri u t H1 locs ht hvm hw hB hz1 hk1 hS => ?_)
  obtain ⟨hP1, hK1, hD1⟩ := hB
  rw [ht] at hP1
  have hK1 := va_K.moved hvm.symm hK1
  obtain ⟨hP, hD⟩ := va_join (wr := []) (w1 := []) hP hD [] [] rfl rfl (by decide) (by decide) hk1 hFc hP1 hD1
  generalize H1 = H at hP hS ⊢
  have hP : va_P (dC, dI) vwCl [] H := hP
  have hD : va_D A [] := hD
  refine W.widen (k := 0) (n := 0) (Nat.le_of_ble_eq_true rfl) (Nat.le_of_ble_eq_true rfl) ?_
  subst hw
  refine lv_istore_n (lv' := [(3, .int 249), (0, .ref (zz 100)), (1, .int (nI k671)), (2, .int (nI k672))]) hx hb dJ0_substring_37a41_4 rfl hl (by decide) rfl (fun ls hl => ?_)
  refine lv_iload_n hx hb dJ0_substring_37a41_5 rfl (lv_at hl 2 rfl) ?_
  refine lv_iload_n hx hb dJ0_substring_37a41_6 rfl (lv_at hl 3 rfl) ?_
  refine lv_iload_n hx hb dJ0_substring_37a41_7 rfl (lv_at hl 0 rfl) ?_
  have hPc := hP.sub (ws' := []) [] rfl
  have hDc := hD.sub (ws' := []) [] (by decide) rfl
  have hKc := hK.sub (tys' := []) [] rfl
  have hFc := va_free (wc := []) hD hS hA [] rfl
  refine va_callv (va_runS (As := [.int (nI k671), .int (nI k672), .int 249]) (rest := []) ⟨hx, hb, hml, hown, hts⟩ (m_J0_checkBoundsBeginEnd_23922_0 l dC dI H.size zz k671 k672 (by omega) (by omega) c1) (va_cwS 3 hts gJ0_substring_37a41_J0_checkBoundsBeginEnd_23922 rfl rfl rfl (by decide +kernel) ⟨Nat.le_of_ble_eq_true rfl, Nat.le_of_ble_eq_true rfl⟩) ⟨(fun a U g mk q => by obtain ⟨q0, q1, qP, qK, qD, qZ⟩ := q; exact ⟨q0, q1, qP, va_K.moved (u := U) (U := U.calling g mk a) (Vm.Alike.refl U.vm) qK, qD, SR.moved (u := U) (U := U.calling g mk a) (State.WarmedH.refl U) qZ⟩), (fun U hU hW => ⟨rfl, by rw [hU], by rw [hU]; exact hPc, va_K.moved hW.alike hKc, hDc.weaken (fun _ _ _ _ => trivial), by rw [hU]; exact SR.moved hW (SR.narrow (SR.kept hZ hS.2.1) hFc)⟩)⟩ rfl rfl hl.1 rfl (lv_room (Nat.le_of_ble_eq_true rfl)) dJ0_substring_37a41_8 ⟨(Nat.le_of_ble_eq_true rfl), (Nat.le_of_ble_eq_true rfl)⟩) hS (fun q _ h => hFc q h) hFc (fun u t H1 locs ht hvm hw hB hz1 hk1 hS => ?_)
  obtain ⟨hP1, hK1, hD1⟩ := hB
  rw [ht] at hP1
  have hK1 := va_K.moved hvm.symm hK1
  obtain ⟨hP, hD⟩ := va_join (wr := []) (w1 := []) hP hD [] [] rfl rfl (by decide) (by decide) hk1 hFc hP1 hD1
  generalize H1 = H at hP hS ⊢
  have hP : va_P (dC, dI) vwCl [] H := hP
  have hD : va_D A [] := hD
  refine W.widen (k := 0) (n := 0) (Nat.le_of_ble_eq_true rfl) (Nat.le_of_ble_eq_true rfl) ?_
  refine lv_iload_n hx hb dJ0_substring_37a41_11 rfl (lv_at hl 2 rfl) ?_
  refine lv_if_ne (tgt := 22) hx hb dJ0_substring_37a41_12 (by decide) (fun cs678 => ?_) (fun cs678 => ?_)
  · refine lv_iload_n hx hb dJ0_substring_37a41_22 rfl (lv_at hl 3 rfl) ?_
    refine lv_iload_n hx hb dJ0_substring_37a41_23 rfl (lv_at hl 2 rfl) ?_
    refine lv_isub hx hb dJ0_substring_37a41_24 ?_
    refine lv_topi (fun z679 ez679 => ?_)
    have ez679 : z679 = nI (k672 - k671) := ez679.trans (pk_sub c1)
    subst ez679
    refine lv_istore (lv' := [(4, .int (nI (k672 - k671))), (3, .int 249), (0, .ref (zz 100)), (1, .int (nI k671)), (2, .int (nI k672))]) hx hb dJ0_substring_37a41_25 hl (by decide) rfl (fun ls hl => ?_)
    refine lv_aload_n hx hb dJ0_substring_37a41_27 rfl (lv_at hl 2 rfl) ?_
    have hPc := hP.sub (ws' := []) [] rfl
    have hDc := hD.sub (ws' := []) [] (by decide) rfl
    have hKc := hK.sub (tys' := []) [] rfl
    have hFc := va_free (wc := []) hD hS hA [] rfl
    refine va_calli (va_runV (As := []) (rest := []) ⟨hx, hb, hml, hown, hts⟩ (m_J0_isLatin1_aae02_0 l dC dI H.size zz ) (cwV 0 hts gJ0_substring_37a41_J0_isLatin1_aae02 rfl rfl rfl (by decide +kernel) ⟨Nat.le_of_ble_eq_true rfl, Nat.le_of_ble_eq_true rfl⟩) ⟨(fun a U g mk q => by obtain ⟨q0, q1, qP, qK, qD, qZ⟩ := q; exact ⟨q0, q1, qP, va_K.moved (u := U) (U := U.calling g mk a) (Vm.Alike.refl U.vm) qK, qD, SR.moved (u := U) (U := U.calling g mk a) (State.WarmedH.refl U) qZ⟩), vk_recv hZ.2.2.2.2.2.2.1 (i := 0) (by decide) hS, (fun U hU hW => ⟨rfl, by rw [hU], by rw [hU]; exact hPc, va_K.moved hW.alike hKc, hDc.weaken (fun _ _ _ _ => trivial), by rw [hU]; exact SR.moved hW (SR.narrow (SR.kept hZ hS.2.1) hFc)⟩)⟩ rfl rfl hl.1 rfl (lv_room (Nat.le_of_ble_eq_true rfl)) dJ0_substring_37a41_28 ⟨(Nat.le_of_ble_eq_true rfl), (Nat.le_of_ble_eq_true rfl)⟩) hS (fun q _ h => hFc q h) hFc (fun ri u t H1 locs ht hvm hw hB hz1 hk1 hS => ?_)
    obtain ⟨hP1, hK1, hD1⟩ := hB
    rw [ht] at hP1
    have hK1 := va_K.moved hvm.symm hK1
    obtain ⟨hP, hD⟩ := va_join (wr := []) (w1 := []) hP hD [] [] rfl rfl (by decide) (by decide) hk1 hFc hP1 hD1
    generalize H1 = H at hP hS ⊢
    have hP : va_P (dC, dI) vwCl [] H := hP
    have hD : va_D A [] := hD
    refine W.widen (k := 0) (n := 0) (Nat.le_of_ble_eq_true rfl) (Nat.le_of_ble_eq_true rfl) ?_
    subst hw
    refine lv_if_eq (tgt := 47) hx hb dJ0_substring_37a41_31 (by decide) (fun cx => absurd cx (show ¬ (1 : Int32) = 0 by decide)) (fun _ => ?_)
    refine lv_aload_n hx hb dJ0_substring_37a41_34 rfl (lv_at hl 2 rfl) ?_
    refine vk_getf (v := .ref (zz 101)) hx hb (hZ.2.2.2.2.2.2.1.1 0 (by decide)).2.2.1 hS hown (hts (.fieldLink RJ0 9 "java/lang/String" "value" "[B") (by decide +kernel)) (fun _ h9 => h9) dJ0_substring_37a41_35 ?_
    refine lv_iload_n hx hb dJ0_substring_37a41_38 rfl (lv_at hl 3 rfl) ?_
    refine lv_iload hx hb dJ0_substring_37a41_39 (lv_at hl 0 rfl) ?_
    have hPc := hP.sub (ws' := []) [] rfl
    have hDc := hD.sub (ws' := []) [] (by decide) rfl
    have hKc := hK.sub (tys' := []) [] rfl
    have hFc := va_free (wc := []) hD hS hA [] rfl
    refine va_callr (va_runS (As := [.ref (zz 101), .int (nI k671), .int (nI (k672 - k671))]) (rest := []) ⟨hx, hb, hml, hown, hts⟩ (m_J1_newString_b4f7a_0 l dC dI H.size zz k671 (k672 - k671) (by omega) c2 c3 c4 c5 c6) (va_cwS 3 hts gJ0_substring_37a41_J1_newString_b4f7a rfl rfl rfl (by decide +kernel) ⟨Nat.le_of_ble_eq_true rfl, Nat.le_of_ble_eq_true rfl⟩) ⟨(fun a U g mk q => by obtain ⟨q0, q1, qP, qK, qD, qZ⟩ := q; exact ⟨q0, q1, qP, va_K.moved (u := U) (U := U.calling g mk a) (Vm.Alike.refl U.vm) qK, qD, SR.moved (u := U) (U := U.calling g mk a) (State.WarmedH.refl U) qZ⟩), (fun U hU hW => ⟨rfl, by rw [hU], by rw [hU]; exact hPc, va_K.moved hW.alike hKc, hDc.weaken (fun _ _ _ _ => trivial), by rw [hU]; exact SR.moved hW (SR.narrow (SR.kept hZ hS.2.1) hFc)⟩)⟩ rfl rfl hl.1 rfl (lv_room (Nat.le_of_ble_eq_true rfl)) dJ0_substring_37a41_41 ⟨(Nat.le_of_ble_eq_true rfl), (Nat.le_of_ble_eq_true rfl)⟩) hS (fun q _ h => hFc q h) hFc (fun u ra t H1 locs ht hvm hw hB hz1 hk1 hS => ?_)
    obtain ⟨q730, rfl⟩ : ∃ z, z = ra := ⟨_, rfl⟩
    obtain ⟨hP1, hK1, hD1⟩ := hB
    rw [ht] at hP1
    have hK1 := va_K.moved hvm.symm hK1
    obtain ⟨hP, hD⟩ := va_join (wr := []) (w1 := []) hP hD [] [] rfl rfl (by decide) (by decide) hk1 hFc hP1 hD1
    generalize H1 = H at hP hS ⊢
    have hP : va_P (dC, dI) vwCl [] H := hP
    have hD : va_D A [] := hD
    refine W.widen (k := 2) (n := 264) (Nat.le_of_ble_eq_true rfl) (Nat.le_of_ble_eq_true rfl) ?_
    refine lv_goto (tgt := 57) hx hb dJ0_substring_37a41_44 (by decide) ?_
    refine W.widen (k := 2) (n := 264) (Nat.le_of_ble_eq_true rfl) (Nat.le_of_ble_eq_true rfl) ?_
    have hP9 := hP.sub (ws' := []) [] rfl
    have hD9 := hD.sub (ws' := []) [] (by decide) rfl
    have hK9 := hK.sub (tys' := []) [] rfl
    exact W.aret (v := .ref q730) hx hb hr (Or.inl ⟨_, rfl⟩) (Or.inr ⟨_, rfl⟩) (fun t ht hW => ⟨⟨(), q730, rfl, trivial, by rw [ht]; exact hP9, va_K.moved hW.alike hK9, hD9⟩, hS.F ht⟩) hS.2.2 dJ0_substring_37a41_57
  · refine lv_iload_n hx hb dJ0_substring_37a41_15 rfl (lv_at hl 3 rfl) ?_
    refine lv_iload_n hx hb dJ0_substring_37a41_16 rfl (lv_at hl 0 rfl) ?_
    refine lv_icmp_ne (tgt := 22) hx hb dJ0_substring_37a41_17 (by decide) (fun _ => ?_) (fun cx => absurd cx (ni_ne (a := k672) (b := 249) (by omega) (by decide)))
    refine lv_iload_n hx hb dJ0_substring_37a41_22 rfl (lv_at hl 3 rfl) ?_
    refine lv_iload_n hx hb dJ0_substring_37a41_23 rfl (lv_at hl 2 rfl) ?_
    refine lv_isub hx hb dJ0_substring_37a41_24 ?_
    refine lv_topi (fun z731 ez731 => ?_)
    have ez731 : z731 = nI (k672 - k671) := ez731.trans (pk_sub c1)
    subst ez731
    refine lv_istore (lv' := [(4, .int (nI (k672 - k671))), (3, .int 249), (0, .ref (zz 100)), (1, .int (nI k671)), (2, .int (nI k672))]) hx hb dJ0_substring_37a41_25 hl (by decide) rfl (fun ls hl => ?_)
    refine lv_aload_n hx hb dJ0_substring_37a41_27 rfl (lv_at hl 2 rfl) ?_
    have hPc := hP.sub (ws' := []) [] rfl
    have hDc := hD.sub (ws' := []) [] (by decide) rfl
    have hKc := hK.sub (tys' := []) [] rfl
    have hFc := va_free (wc := []) hD hS hA [] rfl
    refine va_calli (va_runV (As := []) (rest := []) ⟨hx, hb, hml, hown, hts⟩ (m_J0_isLatin1_aae02_0 l dC dI H.size zz ) (cwV 0 hts gJ0_substring_37a41_J0_isLatin1_aae02 rfl rfl rfl (by decide +kernel) ⟨Nat.le_of_ble_eq_true rfl, Nat.le_of_ble_eq_true rfl⟩) ⟨(fun a U g mk q => by obtain ⟨q0, q1, qP, qK, qD, qZ⟩ := q; exact ⟨q0, q1, qP, va_K.moved (u := U) (U := U.calling g mk a) (Vm.Alike.refl U.vm) qK, qD, SR.moved (u := U) (U := U.calling g mk a) (State.WarmedH.refl U) qZ⟩), vk_recv hZ.2.2.2.2.2.2.1 (i := 0) (by decide) hS, (fun U hU hW => ⟨rfl, by rw [hU], by rw [hU]; exact hPc, va_K.moved hW.alike hKc, hDc.weaken (fun _ _ _ _ => trivial), by rw [hU]; exact SR.moved hW (SR.narrow (SR.kept hZ hS.2.1) hFc)⟩)⟩ rfl rfl hl.1 rfl (lv_room (Nat.le_of_ble_eq_true rfl)) dJ0_substring_37a41_28 ⟨(Nat.le_of_ble_eq_true rfl), (Nat.le_of_ble_eq_true rfl)⟩) hS (fun q _ h => hFc q h) hFc (fun ri u t H1 locs ht hvm hw hB hz1 hk1 hS => ?_)
    obtain ⟨hP1, hK1, hD1⟩ := hB
    rw [ht] at hP1
    have hK1 := va_K.moved hvm.symm hK1
    obtain ⟨hP, hD⟩ := va_join (wr := []) (w1 := []) hP hD [] [] rfl rfl (by decide) (by decide) hk1 hFc hP1 hD1
    generalize H1 = H at hP hS ⊢
    have hP : va_P (dC, dI) vwCl [] H := hP
    have hD : va_D A [] := hD
    refine W.widen (k := 0) (n := 0) (Nat.le_of_ble_eq_true rfl) (Nat.le_of_ble_eq_true rfl) ?_
    subst hw
    refine lv_if_eq (tgt := 47) hx hb dJ0_substring_37a41_31 (by decide) (fun cx => absurd cx (show ¬ (1 : Int32) = 0 by decide)) (fun _ => ?_)
    refine lv_aload_n hx hb dJ0_substring_37a41_34 rfl (lv_at hl 2 rfl) ?_
    refine vk_getf (v := .ref (zz 101)) hx hb (hZ.2.2.2.2.2.2.1.1 0 (by decide)).2.2.1 hS hown (hts (.fieldLink RJ0 9 "java/lang/String" "value" "[B") (by decide +kernel)) (fun _ h9 => h9) dJ0_substring_37a41_35 ?_
    refine lv_iload_n hx hb dJ0_substring_37a41_38 rfl (lv_at hl 3 rfl) ?_
    refine lv_iload hx hb dJ0_substring_37a41_39 (lv_at hl 0 rfl) ?_
    have hPc := hP.sub (ws' := []) [] rfl
    have hDc := hD.sub (ws' := []) [] (by decide) rfl
    have hKc := hK.sub (tys' := []) [] rfl
    have hFc := va_free (wc := []) hD hS hA [] rfl
    refine va_callr (va_runS (As := [.ref (zz 101), .int (nI k671), .int (nI (k672 - k671))]) (rest := []) ⟨hx, hb, hml, hown, hts⟩ (m_J1_newString_b4f7a_0 l dC dI H.size zz k671 (k672 - k671) (by omega) c2 c3 c4 c5 c6) (va_cwS 3 hts gJ0_substring_37a41_J1_newString_b4f7a rfl rfl rfl (by decide +kernel) ⟨Nat.le_of_ble_eq_true rfl, Nat.le_of_ble_eq_true rfl⟩) ⟨(fun a U g mk q => by obtain ⟨q0, q1, qP, qK, qD, qZ⟩ := q; exact ⟨q0, q1, qP, va_K.moved (u := U) (U := U.calling g mk a) (Vm.Alike.refl U.vm) qK, qD, SR.moved (u := U) (U := U.calling g mk a) (State.WarmedH.refl U) qZ⟩), (fun U hU hW => ⟨rfl, by rw [hU], by rw [hU]; exact hPc, va_K.moved hW.alike hKc, hDc.weaken (fun _ _ _ _ => trivial), by rw [hU]; exact SR.moved hW (SR.narrow (SR.kept hZ hS.2.1) hFc)⟩)⟩ rfl rfl hl.1 rfl (lv_room (Nat.le_of_ble_eq_true rfl)) dJ0_substring_37a41_41 ⟨(Nat.le_of_ble_eq_true rfl), (Nat.le_of_ble_eq_true rfl)⟩) hS (fun q _ h => hFc q h) hFc (fun u ra t H1 locs ht hvm hw hB hz1 hk1 hS => ?_)
    obtain ⟨q741, rfl⟩ : ∃ z, z = ra := ⟨_, rfl⟩
    obtain ⟨hP1, hK1, hD1⟩ := hB
    rw [ht] at hP1
    have hK1 := va_K.moved hvm.symm hK1
    obtain ⟨hP, hD⟩ := va_join (wr := []) (w1 := []) hP hD [] [] rfl rfl (by decide) (by decide) hk1 hFc hP1 hD1
    generalize H1 = H at hP hS ⊢
    have hP : va_P (dC, dI) vwCl [] H := hP
    have hD : va_D A [] := hD
    refine W.widen (k := 2) (n := 264) (Nat.le_of_ble_eq_true rfl) (Nat.le_of_ble_eq_true rfl) ?_
    refine lv_goto (tgt := 57) hx hb dJ0_substring_37a41_44 (by decide) ?_
    refine W.widen (k := 2) (n := 264) (Nat.le_of_ble_eq_true rfl) (Nat.le_of_ble_eq_true rfl) ?_
    have hP9 := hP.sub (ws' := []) [] rfl
    have hD9 := hD.sub (ws' := []) [] (by decide) rfl
    have hK9 := hK.sub (tys' := []) [] rfl
    exact W.aret (v := .ref q741) hx hb hr (Or.inl ⟨_, rfl⟩) (Or.inr ⟨_, rfl⟩) (fun t ht hW => ⟨⟨(), q741, rfl, trivial, by rw [ht]; exact hP9, va_K.moved hW.alike hK9, hD9⟩, hS.F ht⟩) hS.2.2 dJ0_substring_37a41_57
set_option maxHeartbeats 4000000 in
set_option maxRecDepth 100000 in
theorem m_X12_wordOf_0 (l : Launch) (dC : Nat → ClassId) (dI : Nat → Nat → Nat) (sz : Nat) (zz : Nat → Nat) (k577 : Nat)   : Met l yX12_wordOf wsX12_wordOf ({ frames := 5, cells := 2, slots := 264, locals := 300 }) (va_Pc [.ref (zz 100), .int (nI k577)] (fun U => U.heap.size = sz ∧ va_P (dC, dI) vwCl [] U.heap ∧ va_K (dC, dI) vwCl [] U ∧ va_D (fun _ => True) [] ∧ SR zz (va_A [] sz) U U.heap)) (va_Qr (fun (_ : Unit) => True) (fun (u : Unit) (ra0 : Nat) t => match u with | () => va_P (dC, dI) vwCl [] t.heap ∧ va_K (dC, dI) vwCl [] t ∧ va_D (va_A [] sz) []) (va_A [] sz)) 2 264 (va_A [] sz) := by
  refine Met.ofW (cc := cX12_wordOf) (maxL := 5) (ret := (some (.object "java/lang/String"))) (by decide) rfl ?_
  intro p e s m args below meth c s₁ B hml hv
  obtain ⟨rfl, hsz, hP, hK, hD0, hZ⟩ := hv
  have hx := B.exec
  have hb := B.bytes
  have hr := B.returns
  have hts := atoms_spec (ws := wsX12_wordOf) B.pre
  have hown : s.vm.findClass RX12 = some m.cls := findClass_of_methodNamed B.named
  have hlocks := B.notSynchronized
  subst hsz
  have hD := hD0.self (sz := s.heap.size)
  generalize hAe : va_A [] s.heap.size = A at hD hZ ⊢
  have hA : ∀ q : Nat, s.heap.size ≤ q → A q := fun q h => by rw [← hAe]; exact Or.inr h
  have hS : va_S A s.heap s.heap [] := va_S.rf
  have hl := lv_entry ([.ref (zz 100), .int (nI k577)]) (n := 5) (Nat.le_of_ble_eq_true rfl)
  rw [lg_entry_eq]
  generalize (lg_sl ([.ref (zz 100), .int (nI k577)]) ++ List.replicate (5 - (lg_sl ([.ref (zz 100), .int (nI k577)])).length) Slot.unset).toArray = ls at hl ⊢
  have hl : lv_has ls 5 [(0, .ref (zz 100)), (1, .int (nI k577))] := hl
  refine lv_iconst (v := 0) hx hb dX12_wordOf_0 (by decide) ?_
  refine lv_istore_n (lv' := [(2, .int 0), (0, .ref (zz 100)), (1, .int (nI k577))]) hx hb dX12_wordOf_1 rfl hl (by decide) rfl (fun ls hl => ?_)
  refine lv_iconst (v := 0) hx hb dX12_wordOf_2 (by decide) ?_
  refine lv_istore_n (lv' := [(3, .int 0), (2, .int 0), (0, .ref (zz 100)), (1, .int (nI k577))]) hx hb dX12_wordOf_3 rfl hl (by decide) rfl (fun ls hl => ?_)
  refine lv_iconst (v := 0) hx hb dX12_wordOf_4 (by decide) ?_
  refine lv_istore (lv' := [(4, .int 0), (3, .int 0), (2, .int 0), (0, .ref (zz 100)), (1, .int (nI k577))]) hx hb dX12_wordOf_5 hl (by decide) rfl (fun ls hl => ?_)
  refine lp_up (σ := (Int32) × (Nat)) (fun (k650 : Nat) (a : (Int32) × (Nat)) H locs ls => match a with | (x651, k652) => k652 ≤ k650 ∧ va_P (dC, dI) vwCl [] H ∧ va_D A [] ∧ va_S A s.heap H locs ∧ lv_has ls 5 [(4, .int (nI k650)), (3, .int x651), (2, .int (nI k652)), (0, .ref (zz 100)), (1, .int (nI k577))]) (fun _ => 0) (fun _ => 0) (hi := 249) ?_ ?_ (k := 0) (by decide) (a := (0, 0)) ⟨(by decide), hP, hD, hS, lv_sub hl [0, 1, 2, 3, 4] rfl⟩
  · intro k650 a H locs ls hk hI ih
    obtain ⟨x651, k652⟩ := a
    obtain ⟨hn_k652, hP, hD, hS, hl⟩ := hI
    refine W.widen (k := 0 + 0) (n := 0 + 0) (by omega) (by omega) ?_
    refine lv_iload hx hb dX12_wordOf_7 (lv_at hl 0 rfl) ?_
    refine lv_aload_n hx hb dX12_wordOf_9 rfl (lv_at hl 3 rfl) ?_
    have hPc := hP.sub (ws' := []) [] rfl
    have hDc := hD.sub (ws' := []) [] (by decide) rfl
    have hKc := hK.sub (tys' := []) [] rfl
    have hFc := va_free (wc := []) hD hS hA [] rfl
    refine va_calli (va_runV (As := []) (rest := [.int (nI k650)]) ⟨hx, hb, hml, hown, hts⟩ (m_J0_length_8abf5_0 l dC dI H.size zz ) (cwV 0 hts gX12_wordOf_J0_length_8abf5 rfl rfl rfl (by decide +kernel) ⟨Nat.le_of_ble_eq_true rfl, Nat.le_of_ble_eq_true rfl⟩) ⟨(fun a U g mk q => by obtain ⟨q0, q1, qP, qK, qD, qZ⟩ := q; exact ⟨q0, q1, qP, va_K.moved (u := U) (U := U.calling g mk a) (Vm.Alike.refl U.vm) qK, qD, SR.moved (u := U) (U := U.calling g mk a) (State.WarmedH.refl U) qZ⟩), vk_recv hZ.2.2.2.2.2.2.1 (i := 0) (by decide) hS, (fun U hU hW => ⟨rfl, by rw [hU], by rw [hU]; exact hPc, va_K.moved hW.alike hKc, hDc.weaken (fun _ _ _ _ => trivial), by rw [hU]; exact SR.moved hW (SR.narrow (SR.kept hZ hS.2.1) hFc)⟩)⟩ rfl rfl hl.1 rfl (lv_room (Nat.le_of_ble_eq_true rfl)) dX12_wordOf_10 ⟨(by show _ ≤ 2; omega), (by show _ ≤ 264; omega)⟩) hS (fun q _ h => hFc q h) hFc (fun ri u t H1 locs ht hvm hw hB hz1 hk1 hS => ?_)
    obtain ⟨hP1, hK1, hD1⟩ := hB
    rw [ht] at hP1
    have hK1 := va_K.moved hvm.symm hK1
    obtain ⟨hP, hD⟩ := va_join (wr := []) (w1 := []) hP hD [] [] rfl rfl (by decide) (by decide) hk1 hFc hP1 hD1
    generalize H1 = H at hP hS ⊢
    have hP : va_P (dC, dI) vwCl [] H := hP
    have hD : va_D A [] := hD
    refine W.widen (k := 0 + 0) (n := 0 + 0) (by omega) (by omega) ?_
    subst hw
    refine lv_icmp_ge (tgt := 54) hx hb dX12_wordOf_13 (by decide) (fun cx => absurd cx (nI_ge (a := k650) (b := 249) (by omega) (by decide))) (fun _ => ?_)
    refine lv_aload_n hx hb dX12_wordOf_16 rfl (lv_at hl 3 rfl) ?_
    refine lv_iload hx hb dX12_wordOf_17 (lv_at hl 0 rfl) ?_
    have hPc := hP.sub (ws' := []) [] rfl
    have hDc := hD.sub (ws' := []) [] (by decide) rfl
    have hKc := hK.sub (tys' := []) [] rfl
    have hFc := va_free (wc := []) hD hS hA [] rfl
    refine va_calli (va_runV (As := [.int (nI k650)]) (rest := []) ⟨hx, hb, hml, hown, hts⟩ (m_J0_charAt_5068e_0 l dC dI H.size zz k650 (by omega)) (cwV 1 hts gX12_wordOf_J0_charAt_5068e rfl rfl rfl (by decide +kernel) ⟨Nat.le_of_ble_eq_true rfl, Nat.le_of_ble_eq_true rfl⟩) ⟨(fun a U g mk q => by obtain ⟨q0, q1, qP, qK, qD, qZ⟩ := q; exact ⟨q0, q1, qP, va_K.moved (u := U) (U := U.calling g mk a) (Vm.Alike.refl U.vm) qK, qD, SR.moved (u := U) (U := U.calling g mk a) (State.WarmedH.refl U) qZ⟩), vk_recv hZ.2.2.2.2.2.2.1 (i := 0) (by decide) hS, (fun U hU hW => ⟨rfl, by rw [hU], by rw [hU]; exact hPc, va_K.moved hW.alike hKc, hDc.weaken (fun _ _ _ _ => trivial), by rw [hU]; exact SR.moved hW (SR.narrow (SR.kept hZ hS.2.1) hFc)⟩)⟩ rfl rfl hl.1 rfl (lv_room (Nat.le_of_ble_eq_true rfl)) dX12_wordOf_19 ⟨(by show _ ≤ 2; omega), (by show _ ≤ 264; omega)⟩) hS (fun q _ h => hFc q h) hFc (fun ri u t H1 locs ht hvm hw hB hz1 hk1 hS => ?_)
    obtain ⟨hP1, hK1, hD1⟩ := hB
    rw [ht] at hP1
    have hK1 := va_K.moved hvm.symm hK1
    obtain ⟨hP, hD⟩ := va_join (wr := []) (w1 := []) hP hD [] [] rfl rfl (by decide) (by decide) hk1 hFc hP1 hD1
    generalize H1 = H at hP hS ⊢
    have hP : va_P (dC, dI) vwCl [] H := hP
    have hD : va_D A [] := hD
    refine W.widen (k := 0 + 0) (n := 0 + 0) (by omega) (by omega) ?_
    subst hw
    refine lv_bipush (v := 32) hx hb dX12_wordOf_22 (by decide) ?_
    refine lv_icmp_ne (tgt := 48) hx hb dX12_wordOf_24 (by decide) (fun cs659 => ?_) (fun cs659 => ?_)
    · refine lv_iinc (v := (nI (k650 + 1))) (lv' := [(4, .int (nI (k650 + 1))), (3, .int x651), (2, .int (nI k652)), (0, .ref (zz 100)), (1, .int (nI k577))]) hx hb dX12_wordOf_48 hl (k := 0) rfl (nI_1 k650) (by decide) rfl (fun ls hl => ?_)
      refine lv_goto (tgt := 7) hx hb dX12_wordOf_51 (by decide) ?_
      refine W.widen (k := 0 + 0) (n := 0 + 0) (by omega) (by omega) ?_
      exact ih (x651, k652) _ _ _ ⟨(by omega), hP.sub [] rfl, hD.sub [] (by decide) rfl, hS, lv_sub hl [0, 1, 2, 3, 4] rfl⟩
    · refine lv_iload_n hx hb dX12_wordOf_27 rfl (lv_at hl 1 rfl) ?_
      refine lv_iload_n hx hb dX12_wordOf_28 rfl (lv_at hl 4 rfl) ?_
      refine lv_icmp_ne (tgt := 40) hx hb dX12_wordOf_29 (by decide) (fun cs660 => ?_) (fun cs660 => ?_)
      · refine lv_iinc (v := (x651 + 1)) (lv' := [(3, .int (x651 + 1)), (4, .int (nI k650)), (2, .int (nI k652)), (0, .ref (zz 100)), (1, .int (nI k577))]) hx hb dX12_wordOf_40 hl (k := 1) rfl rfl (by decide) rfl (fun ls hl => ?_)
        refine lv_iload hx hb dX12_wordOf_43 (lv_at hl 1 rfl) ?_
        refine lv_iconst (v := 1) hx hb dX12_wordOf_45 (by decide) ?_
        refine lv_iadd hx hb dX12_wordOf_46 ?_
        refine lv_topi (fun z661 ez661 => ?_)
        have ez661 : z661 = nI (k650 + 1) := ez661.trans (nI_1 k650)
        subst ez661
        refine lv_istore_n (lv' := [(2, .int (nI (k650 + 1))), (3, .int (x651 + 1)), (4, .int (nI k650)), (0, .ref (zz 100)), (1, .int (nI k577))]) hx hb dX12_wordOf_47 rfl hl (by decide) rfl (fun ls hl => ?_)
        refine lv_iinc (v := (nI (k650 + 1))) (lv' := [(4, .int (nI (k650 + 1))), (2, .int (nI (k650 + 1))), (3, .int (x651 + 1)), (0, .ref (zz 100)), (1, .int (nI k577))]) hx hb dX12_wordOf_48 hl (k := 2) rfl (nI_1 k650) (by decide) rfl (fun ls hl => ?_)
        refine lv_goto (tgt := 7) hx hb dX12_wordOf_51 (by decide) ?_
        refine W.widen (k := 0 + 0) (n := 0 + 0) (by omega) (by omega) ?_
        exact ih ((x651 + 1), (k650 + 1)) _ _ _ ⟨(by omega), hP.sub [] rfl, hD.sub [] (by decide) rfl, hS, lv_sub hl [0, 2, 1, 3, 4] rfl⟩
      · refine lv_aload_n hx hb dX12_wordOf_32 rfl (lv_at hl 3 rfl) ?_
        refine lv_iload_n hx hb dX12_wordOf_33 rfl (lv_at hl 2 rfl) ?_
        refine lv_iload hx hb dX12_wordOf_34 (lv_at hl 0 rfl) ?_
        have hPc := hP.sub (ws' := []) [] rfl
        have hDc := hD.sub (ws' := []) [] (by decide) rfl
        have hKc := hK.sub (tys' := []) [] rfl
        have hFc := va_free (wc := []) hD hS hA [] rfl
        refine va_callr (va_runV (As := [.int (nI k652), .int (nI k650)]) (rest := []) ⟨hx, hb, hml, hown, hts⟩ (m_J0_substring_37a41_0 l dC dI H.size zz k652 k650 (by omega) (by omega) (by omega) (by omega) (by omega) (by omega) (by omega) (by omega)) (cwV 2 hts gX12_wordOf_J0_substring_37a41 rfl rfl rfl (by decide +kernel) ⟨Nat.le_of_ble_eq_true rfl, Nat.le_of_ble_eq_true rfl⟩) ⟨(fun a U g mk q => by obtain ⟨q0, q1, qP, qK, qD, qZ⟩ := q; exact ⟨q0, q1, qP, va_K.moved (u := U) (U := U.calling g mk a) (Vm.Alike.refl U.vm) qK, qD, SR.moved (u := U) (U := U.calling g mk a) (State.WarmedH.refl U) qZ⟩), vk_recv hZ.2.2.2.2.2.2.1 (i := 0) (by decide) hS, (fun U hU hW => ⟨rfl, by rw [hU], by rw [hU]; exact hPc, va_K.moved hW.alike hKc, hDc.weaken (fun _ _ _ _ => trivial), by rw [hU]; exact SR.moved hW (SR.narrow (SR.kept hZ hS.2.1) hFc)⟩)⟩ rfl rfl hl.1 rfl (lv_room (Nat.le_of_ble_eq_true rfl)) dX12_wordOf_36 ⟨(by show _ ≤ 2; omega), (by show _ ≤ 264; omega)⟩) hS (fun q _ h => hFc q h) hFc (fun u ra t H1 locs ht hvm hw hB hz1 hk1 hS => ?_)
        obtain ⟨q742, rfl⟩ : ∃ z, z = ra := ⟨_, rfl⟩
        obtain ⟨hP1, hK1, hD1⟩ := hB
        rw [ht] at hP1
        have hK1 := va_K.moved hvm.symm hK1
        obtain ⟨hP, hD⟩ := va_join (wr := []) (w1 := []) hP hD [] [] rfl rfl (by decide) (by decide) hk1 hFc hP1 hD1
        generalize H1 = H at hP hS ⊢
        have hP : va_P (dC, dI) vwCl [] H := hP
        have hD : va_D A [] := hD
        refine W.widen (k := 0 + 2) (n := 0 + 264) (by omega) (by omega) ?_
        refine W.widen (k := 2) (n := 264) (by omega) (by omega) ?_
        have hP9 := hP.sub (ws' := []) [] rfl
        have hD9 := hD.sub (ws' := []) [] (by decide) rfl
        have hK9 := hK.sub (tys' := []) [] rfl
        exact W.aret (v := .ref q742) hx hb hr (Or.inl ⟨_, rfl⟩) (Or.inr ⟨_, rfl⟩) (fun t ht hW => ⟨⟨(), q742, rfl, trivial, by rw [ht]; exact hP9, va_K.moved hW.alike hK9, hD9⟩, hS.F ht⟩) hS.2.2 dX12_wordOf_39
  · intro a H locs ls hI
    obtain ⟨x651, k652⟩ := a
    obtain ⟨hn_k652, hP, hD, hS, hl⟩ := hI
    have hl : lv_has ls 5 [(4, .int 249), (3, .int x651), (2, .int (nI k652)), (0, .ref (zz 100)), (1, .int (nI k577))] := hl
    have hP : va_P (dC, dI) vwCl [] H := hP
    have hD : va_D A [] := hD
    refine W.widen (k := 0) (n := 0) (Nat.le_of_ble_eq_true rfl) (Nat.le_of_ble_eq_true rfl) ?_
    refine lv_iload hx hb dX12_wordOf_7 (lv_at hl 0 rfl) ?_
    refine lv_aload_n hx hb dX12_wordOf_9 rfl (lv_at hl 3 rfl) ?_
    have hPc := hP.sub (ws' := []) [] rfl
    have hDc := hD.sub (ws' := []) [] (by decide) rfl
    have hKc := hK.sub (tys' := []) [] rfl
    have hFc := va_free (wc := []) hD hS hA [] rfl
    refine va_calli (va_runV (As := []) (rest := [.int 249]) ⟨hx, hb, hml, hown, hts⟩ (m_J0_length_8abf5_0 l dC dI H.size zz ) (cwV 0 hts gX12_wordOf_J0_length_8abf5 rfl rfl rfl (by decide +kernel) ⟨Nat.le_of_ble_eq_true rfl, Nat.le_of_ble_eq_true rfl⟩) ⟨(fun a U g mk q => by obtain ⟨q0, q1, qP, qK, qD, qZ⟩ := q; exact ⟨q0, q1, qP, va_K.moved (u := U) (U := U.calling g mk a) (Vm.Alike.refl U.vm) qK, qD, SR.moved (u := U) (U := U.calling g mk a) (State.WarmedH.refl U) qZ⟩), vk_recv hZ.2.2.2.2.2.2.1 (i := 0) (by decide) hS, (fun U hU hW => ⟨rfl, by rw [hU], by rw [hU]; exact hPc, va_K.moved hW.alike hKc, hDc.weaken (fun _ _ _ _ => trivial), by rw [hU]; exact SR.moved hW (SR.narrow (SR.kept hZ hS.2.1) hFc)⟩)⟩ rfl rfl hl.1 rfl (lv_room (Nat.le_of_ble_eq_true rfl)) dX12_wordOf_10 ⟨(Nat.le_of_ble_eq_true rfl), (Nat.le_of_ble_eq_true rfl)⟩) hS (fun q _ h => hFc q h) hFc (fun ri u t H1 locs ht hvm hw hB hz1 hk1 hS => ?_)
    obtain ⟨hP1, hK1, hD1⟩ := hB
    rw [ht] at hP1
    have hK1 := va_K.moved hvm.symm hK1
    obtain ⟨hP, hD⟩ := va_join (wr := []) (w1 := []) hP hD [] [] rfl rfl (by decide) (by decide) hk1 hFc hP1 hD1
    generalize H1 = H at hP hS ⊢
    have hP : va_P (dC, dI) vwCl [] H := hP
    have hD : va_D A [] := hD
    refine W.widen (k := 0) (n := 0) (Nat.le_of_ble_eq_true rfl) (Nat.le_of_ble_eq_true rfl) ?_
    subst hw
    refine lv_icmp_ge (tgt := 54) hx hb dX12_wordOf_13 (by decide) (fun _ => ?_) (fun cx => absurd (show (249 : Int32) ≤ 249 by decide) cx)
    refine va_ldcS hx hb hown (hZ.2.2.2.2.2.2.2.1 ("GoalHouse", 206, "", 1) (by decide +kernel)) dX12_wordOf_54 ?_
    refine W.widen (k := 2) (n := 264) (Nat.le_of_ble_eq_true rfl) (Nat.le_of_ble_eq_true rfl) ?_
    have hP9 := hP.sub (ws' := []) [] rfl
    have hD9 := hD.sub (ws' := []) [] (by decide) rfl
    have hK9 := hK.sub (tys' := []) [] rfl
    exact W.aret (v := .ref (zz 102)) hx hb hr (Or.inl ⟨_, rfl⟩) (Or.inr ⟨_, rfl⟩) (fun t ht hW => ⟨⟨(), (zz 102), rfl, trivial, by rw [ht]; exact hP9, va_K.moved hW.alike hK9, hD9⟩, hS.F ht⟩) hS.2.2 dX12_wordOf_56
