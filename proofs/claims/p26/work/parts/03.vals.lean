set_option maxHeartbeats 4000000 in
set_option maxRecDepth 100000 in
theorem m_Jxa1e45_init_da8c8_0 (l : Launch) (dC : Nat → ClassId) (dI : Nat → Nat → Nat) (sz : Nat) (zz : Nat → Nat) (h26 : Nat) (v27 : Value) (v28 : Value) (v29 : Value)   : Met l yJxa1e45_init_da8c8 wsJxa1e45_init_da8c8 ({ frames := 1, cells := 0, slots := 0, locals := 12 }) (va_Pc [.ref h26] (fun U => U.heap.size = sz ∧ va_P (dC, dI) vwCl [(h26, .inr (2, [v27, v28, v29]))] U.heap ∧ va_K (dC, dI) vwCl [] U ∧ va_D (fun _ => True) [(h26, .inr (2, [v27, v28, v29]))] ∧ SR zz (va_A [(h26, .inr (2, [v27, v28, v29]))] sz) U U.heap)) (va_Qv (fun (_ : Unit) => True) (fun (u : Unit) t => match u with | () => va_P (dC, dI) vwCl [(h26, .inr (2, [v27, v28, v29]))] t.heap ∧ va_K (dC, dI) vwCl [] t ∧ va_D (va_A [(h26, .inr (2, [v27, v28, v29]))] sz) [(h26, .inr (2, [v27, v28, v29]))]) (va_A [(h26, .inr (2, [v27, v28, v29]))] sz)) 0 0 (va_A [(h26, .inr (2, [v27, v28, v29]))] sz) := by
  refine Met.ofW (cc := cJxa1e45_init_da8c8) (maxL := 1) (ret := none) (by decide) rfl ?_
  intro p e s m args below meth c s₁ B hml hv
  obtain ⟨rfl, hsz, hP, hK, hD0, hZ⟩ := hv
  have hx := B.exec
  have hb := B.bytes
  have hr := B.returns
  have hts := atoms_spec (ws := wsJxa1e45_init_da8c8) B.pre
  have hown : s.vm.findClass RJxa1e45 = some m.cls := findClass_of_methodNamed B.named
  have hlocks := B.notSynchronized
  have hin : meth.name = "<init>" := (name_of_methodNamed B.named B.method).1
  subst hsz
  have hD := hD0.self (sz := s.heap.size)
  generalize hAe : va_A [(h26, .inr (2, [v27, v28, v29]))] s.heap.size = A at hD hZ ⊢
  have hA : ∀ q : Nat, s.heap.size ≤ q → A q := fun q h => by rw [← hAe]; exact Or.inr h
  have hS : va_S A s.heap s.heap [] := va_S.rf
  have hl := lv_entry ([.ref h26]) (n := 1) (Nat.le_of_ble_eq_true rfl)
  rw [lg_entry_eq]
  generalize (lg_sl ([.ref h26]) ++ List.replicate (1 - (lg_sl ([.ref h26])).length) Slot.unset).toArray = ls at hl ⊢
  have hl : lv_has ls 1 [(0, .ref h26)] := hl
  refine lv_aload_n hx hb dJxa1e45_init_da8c8_0 rfl (lv_at hl 0 rfl) ?_
  refine W.objInit hx hb hown (hts (.methodLink RJxa1e45 1 objectInit) (by decide +kernel)) (hts (.instanceMethod objectInit) (by decide +kernel)) (hts (.code objectInit ⟨#[0xb1]⟩ 1 none) (by decide +kernel)) rfl (by rw [hml]; exact hl.1) rfl dJxa1e45_init_da8c8_1 (Nat.le_of_ble_eq_true rfl) (Nat.le_of_ble_eq_true rfl) ?_
  refine W.eq (g2 := F0 m 4 ls []) rfl ?_
  have hP9 := hP.sub (ws' := [(h26, .inr (2, [v27, v28, v29]))]) [0] rfl
  have hD9 := hD.sub (ws' := [(h26, .inr (2, [v27, v28, v29]))]) [0] (by decide) rfl
  have hK9 := hK.sub (tys' := []) [] rfl
  exact W.vret hx hb hr (fun t ht hW => ⟨⟨(), rfl, trivial, by rw [ht]; exact hP9, va_K.moved hW.alike hK9, hD9⟩, hS.F ht⟩) hS.2.2 dJxa1e45_init_da8c8_4
set_option maxHeartbeats 4000000 in
set_option maxRecDepth 100000 in
theorem m_Jxc12de_init_da8c8_0 (l : Launch) (dC : Nat → ClassId) (dI : Nat → Nat → Nat) (sz : Nat) (zz : Nat → Nat) (h23 : Nat) (v24 : Value) (v25 : Value)   : Met l yJxc12de_init_da8c8 wsJxc12de_init_da8c8 ({ frames := 2, cells := 0, slots := 0, locals := 32 }) (va_Pc [.ref h23] (fun U => U.heap.size = sz ∧ va_P (dC, dI) vwCl [(h23, .inr (2, [.int 0, v24, v25]))] U.heap ∧ va_K (dC, dI) vwCl [] U ∧ va_D (fun _ => True) [(h23, .inr (2, [.int 0, v24, v25]))] ∧ SR zz (va_A [(h23, .inr (2, [.int 0, v24, v25]))] sz) U U.heap)) (va_Qv (fun (_ : Unit) => True) (fun (u : Unit) t => match u with | () => va_P (dC, dI) vwCl [(h23, .inr (2, [.int 0, v24, v25]))] t.heap ∧ va_K (dC, dI) vwCl [] t ∧ va_D (va_A [(h23, .inr (2, [.int 0, v24, v25]))] sz) [(h23, .inr (2, [.int 0, v24, v25]))]) (va_A [(h23, .inr (2, [.int 0, v24, v25]))] sz)) 0 0 (va_A [(h23, .inr (2, [.int 0, v24, v25]))] sz) := by
  refine Met.ofW (cc := cJxc12de_init_da8c8) (maxL := 1) (ret := none) (by decide) rfl ?_
  intro p e s m args below meth c s₁ B hml hv
  obtain ⟨rfl, hsz, hP, hK, hD0, hZ⟩ := hv
  have hx := B.exec
  have hb := B.bytes
  have hr := B.returns
  have hts := atoms_spec (ws := wsJxc12de_init_da8c8) B.pre
  have hown : s.vm.findClass RJxc12de = some m.cls := findClass_of_methodNamed B.named
  have hlocks := B.notSynchronized
  have hin : meth.name = "<init>" := (name_of_methodNamed B.named B.method).1
  have hinJx4a65c : ∀ w ∈ wsJx4a65c0, w ∈ wsJxc12de_init_da8c8 := fun w h => List.mem_cons_of_mem _ (List.mem_append_right _ (h))
  subst hsz
  have hD := hD0.self (sz := s.heap.size)
  generalize hAe : va_A [(h23, .inr (2, [.int 0, v24, v25]))] s.heap.size = A at hD hZ ⊢
  have hA : ∀ q : Nat, s.heap.size ≤ q → A q := fun q h => by rw [← hAe]; exact Or.inr h
  have hS : va_S A s.heap s.heap [] := va_S.rf
  have hl := lv_entry ([.ref h23]) (n := 1) (Nat.le_of_ble_eq_true rfl)
  rw [lg_entry_eq]
  generalize (lg_sl ([.ref h23]) ++ List.replicate (1 - (lg_sl ([.ref h23])).length) Slot.unset).toArray = ls at hl ⊢
  have hl : lv_has ls 1 [(0, .ref h23)] := hl
  refine lv_aload_n hx hb dJxc12de_init_da8c8_0 rfl (lv_at hl 0 rfl) ?_
  have hPc := hP.sub (ws' := [(h23, .inr (2, [.int 0, v24, v25]))]) [0] rfl
  have hDc := hD.sub (ws' := [(h23, .inr (2, [.int 0, v24, v25]))]) [0] (by decide) rfl
  have hKc := hK.sub (tys' := []) [] rfl
  have hFc := va_free (wc := [(h23, .inr (2, [.int 0, v24, v25]))]) hD hS hA [0] rfl
  refine va_callv (va_runI (As := []) (rest := []) ⟨hx, hb, hml, hown, hts⟩ (m_Jxa1e45_init_da8c8_0 l dC dI s.heap.size zz h23 (.int 0) v24 v25) (cwI 0 hts gJxc12de_init_da8c8_Jxa1e45_init_da8c8 rfl rfl rfl (hts (.initialized RJxa1e45) (by decide +kernel)) (hts (.methodLink RJxc12de 1 yJxa1e45_init_da8c8) (by decide +kernel)) (hts (.instanceMethod yJxa1e45_init_da8c8) (by decide +kernel)) rfl (by decide +kernel) ⟨Nat.le_of_ble_eq_true rfl, Nat.le_of_ble_eq_true rfl⟩) ⟨(fun a U g mk q => by obtain ⟨q0, q1, qP, qK, qD, qZ⟩ := q; exact ⟨q0, q1, qP, va_K.moved (u := U) (U := U.calling g mk a) (Vm.Alike.refl U.vm) qK, qD, SR.moved (u := U) (U := U.calling g mk a) (State.WarmedH.refl U) qZ⟩), (fun U hU hW => ⟨rfl, by rw [hU], by rw [hU]; exact hPc, va_K.moved hW.alike hKc, hDc.weaken (fun _ _ _ _ => trivial), by rw [hU]; exact SR.moved hW (SR.narrow (SR.kept hZ hS.2.1) hFc)⟩)⟩ rfl rfl hl.1 rfl (lv_room (Nat.le_of_ble_eq_true rfl)) dJxc12de_init_da8c8_1 ⟨(Nat.le_of_ble_eq_true rfl), (Nat.le_of_ble_eq_true rfl)⟩) hS (fun q _ h => hFc q h) hFc (fun u t H1 locs ht hvm hw hB hz1 hk1 hS => ?_)
  obtain ⟨hP1, hK1, hD1⟩ := hB
  rw [ht] at hP1
  have hK1 := va_K.moved hvm.symm hK1
  obtain ⟨hP, hD⟩ := va_join (wr := []) (w1 := [(h23, .inr (2, [.int 0, v24, v25]))]) hP hD [0] [] rfl rfl (by decide) (by decide) hk1 hFc hP1 hD1
  generalize H1 = H at hP hS ⊢
  have hP : va_P (dC, dI) vwCl [(h23, .inr (2, [.int 0, v24, v25]))] H := hP
  have hD : va_D A [(h23, .inr (2, [.int 0, v24, v25]))] := hD
  refine W.widen (k := 0) (n := 0) (Nat.le_of_ble_eq_true rfl) (Nat.le_of_ble_eq_true rfl) ?_
  refine lv_aload_n hx hb dJxc12de_init_da8c8_4 rfl (lv_at hl 0 rfl) ?_
  refine lv_iconst (v := 0) hx hb dJxc12de_init_da8c8_5 (by decide) ?_
  refine va_put (D := (dC, dI)) (ci := 2) (v := .int 0) (ty := .int) (C := RJx4a65c) (T := TJx4a65c) (N := 3) hx hb hts hinJx4a65c tyJx4a65c tyJx4a65c_ok nmJx4a65c hown hK hP hD hS 0 rfl rfl 0 (by decide) (hts (.fieldLink RJxc12de 7 "java/util/AbstractList" "modCount" "I") (by decide +kernel)) (fun _ h9 => h9) rfl (by decide +kernel) rfl rfl (Nat.le_of_ble_eq_true rfl) dJxc12de_init_da8c8_6 (fun H locs hP hD hS => ?_)
  have hP : va_P (dC, dI) vwCl [(h23, .inr (2, [.int 0, v24, v25]))] H := hP
  have hD : va_D A [(h23, .inr (2, [.int 0, v24, v25]))] := hD
  have hP9 := hP.sub (ws' := [(h23, .inr (2, [.int 0, v24, v25]))]) [0] rfl
  have hD9 := hD.sub (ws' := [(h23, .inr (2, [.int 0, v24, v25]))]) [0] (by decide) rfl
  have hK9 := hK.sub (tys' := []) [] rfl
  exact W.vret hx hb hr (fun t ht hW => ⟨⟨(), rfl, trivial, by rw [ht]; exact hP9, va_K.moved hW.alike hK9, hD9⟩, hS.F ht⟩) hS.2.2 dJxc12de_init_da8c8_9
set_option maxHeartbeats 4000000 in
set_option maxRecDepth 100000 in
theorem m_Jx4a65c_init_da8c8_0 (l : Launch) (dC : Nat → ClassId) (dI : Nat → Nat → Nat) (sz : Nat) (zz : Nat → Nat) (h21 : Nat) (v22 : Value)   : Met l yJx4a65c_init_da8c8 wsJx4a65c_init_da8c8 ({ frames := 3, cells := 0, slots := 0, locals := 52 }) (va_Pc [.ref h21] (fun U => U.heap.size = sz ∧ va_P (dC, dI) vwCl [(h21, .inr (2, [.int 0, .null, v22]))] U.heap ∧ va_K (dC, dI) vwCl [] U ∧ va_D (fun _ => True) [(h21, .inr (2, [.int 0, .null, v22]))] ∧ SR zz (va_A [(h21, .inr (2, [.int 0, .null, v22]))] sz) U U.heap)) (va_Qv (fun (_ : Unit) => True) (fun (u : Unit) t => match u with | () => va_P (dC, dI) vwCl [(h21, .inr (2, [.int 0, .ref (zz 0), v22]))] t.heap ∧ va_K (dC, dI) vwCl [] t ∧ va_D (va_A [(h21, .inr (2, [.int 0, .null, v22]))] sz) [(h21, .inr (2, [.int 0, .ref (zz 0), v22]))]) (va_A [(h21, .inr (2, [.int 0, .null, v22]))] sz)) 0 0 (va_A [(h21, .inr (2, [.int 0, .null, v22]))] sz) := by
  refine Met.ofW (cc := cJx4a65c_init_da8c8) (maxL := 1) (ret := none) (by decide) rfl ?_
  intro p e s m args below meth c s₁ B hml hv
  obtain ⟨rfl, hsz, hP, hK, hD0, hZ⟩ := hv
  have hx := B.exec
  have hb := B.bytes
  have hr := B.returns
  have hts := atoms_spec (ws := wsJx4a65c_init_da8c8) B.pre
  have hown : s.vm.findClass RJx4a65c = some m.cls := findClass_of_methodNamed B.named
  have hlocks := B.notSynchronized
  have hin : meth.name = "<init>" := (name_of_methodNamed B.named B.method).1
  have hinJx4a65c : ∀ w ∈ wsJx4a65c0, w ∈ wsJx4a65c_init_da8c8 := fun w h => List.mem_cons_of_mem _ (List.mem_append_right _ (h))
  subst hsz
  have hD := hD0.self (sz := s.heap.size)
  generalize hAe : va_A [(h21, .inr (2, [.int 0, .null, v22]))] s.heap.size = A at hD hZ ⊢
  have hA : ∀ q : Nat, s.heap.size ≤ q → A q := fun q h => by rw [← hAe]; exact Or.inr h
  have hS : va_S A s.heap s.heap [] := va_S.rf
  have hl := lv_entry ([.ref h21]) (n := 1) (Nat.le_of_ble_eq_true rfl)
  rw [lg_entry_eq]
  generalize (lg_sl ([.ref h21]) ++ List.replicate (1 - (lg_sl ([.ref h21])).length) Slot.unset).toArray = ls at hl ⊢
  have hl : lv_has ls 1 [(0, .ref h21)] := hl
  refine lv_aload_n hx hb dJx4a65c_init_da8c8_0 rfl (lv_at hl 0 rfl) ?_
  have hPc := hP.sub (ws' := [(h21, .inr (2, [.int 0, .null, v22]))]) [0] rfl
  have hDc := hD.sub (ws' := [(h21, .inr (2, [.int 0, .null, v22]))]) [0] (by decide) rfl
  have hKc := hK.sub (tys' := []) [] rfl
  have hFc := va_free (wc := [(h21, .inr (2, [.int 0, .null, v22]))]) hD hS hA [0] rfl
  refine va_callv (va_runI (As := []) (rest := []) ⟨hx, hb, hml, hown, hts⟩ (m_Jxc12de_init_da8c8_0 l dC dI s.heap.size zz h21 .null v22) (cwI 0 hts gJx4a65c_init_da8c8_Jxc12de_init_da8c8 rfl rfl rfl (hts (.initialized RJxc12de) (by decide +kernel)) (hts (.methodLink RJx4a65c 1 yJxc12de_init_da8c8) (by decide +kernel)) (hts (.instanceMethod yJxc12de_init_da8c8) (by decide +kernel)) rfl (by decide +kernel) ⟨Nat.le_of_ble_eq_true rfl, Nat.le_of_ble_eq_true rfl⟩) ⟨(fun a U g mk q => by obtain ⟨q0, q1, qP, qK, qD, qZ⟩ := q; exact ⟨q0, q1, qP, va_K.moved (u := U) (U := U.calling g mk a) (Vm.Alike.refl U.vm) qK, qD, SR.moved (u := U) (U := U.calling g mk a) (State.WarmedH.refl U) qZ⟩), (fun U hU hW => ⟨rfl, by rw [hU], by rw [hU]; exact hPc, va_K.moved hW.alike hKc, hDc.weaken (fun _ _ _ _ => trivial), by rw [hU]; exact SR.moved hW (SR.narrow (SR.kept hZ hS.2.1) hFc)⟩)⟩ rfl rfl hl.1 rfl (lv_room (Nat.le_of_ble_eq_true rfl)) dJx4a65c_init_da8c8_1 ⟨(Nat.le_of_ble_eq_true rfl), (Nat.le_of_ble_eq_true rfl)⟩) hS (fun q _ h => hFc q h) hFc (fun u t H1 locs ht hvm hw hB hz1 hk1 hS => ?_)
  obtain ⟨hP1, hK1, hD1⟩ := hB
  rw [ht] at hP1
  have hK1 := va_K.moved hvm.symm hK1
  obtain ⟨hP, hD⟩ := va_join (wr := []) (w1 := [(h21, .inr (2, [.int 0, .null, v22]))]) hP hD [0] [] rfl rfl (by decide) (by decide) hk1 hFc hP1 hD1
  generalize H1 = H at hP hS ⊢
  have hP : va_P (dC, dI) vwCl [(h21, .inr (2, [.int 0, .null, v22]))] H := hP
  have hD : va_D A [(h21, .inr (2, [.int 0, .null, v22]))] := hD
  refine W.widen (k := 0) (n := 0) (Nat.le_of_ble_eq_true rfl) (Nat.le_of_ble_eq_true rfl) ?_
  refine lv_aload_n hx hb dJx4a65c_init_da8c8_4 rfl (lv_at hl 0 rfl) ?_
  refine va_gets hx hb hZ.1 hS hown (hts (.fieldLink RJx4a65c 39 "java/util/ArrayList" "DEFAULTCAPACITY_EMPTY_ELEMENTDATA" "[Ljava/lang/Object;") (by decide +kernel)) (fun _ h9 => h9) dJx4a65c_init_da8c8_5 ?_
  refine va_put (D := (dC, dI)) (ci := 2) (v := .ref (zz 0)) (ty := (.array (.object "java/lang/Object"))) (C := RJx4a65c) (T := TJx4a65c) (N := 3) hx hb hts hinJx4a65c tyJx4a65c tyJx4a65c_ok nmJx4a65c hown hK hP hD hS 0 rfl rfl 1 (by decide) (hts (.fieldLink RJx4a65c 9 "java/util/ArrayList" "elementData" "[Ljava/lang/Object;") (by decide +kernel)) (fun _ h9 => h9) rfl (by decide +kernel) rfl rfl (Nat.le_of_ble_eq_true rfl) dJx4a65c_init_da8c8_8 (fun H locs hP hD hS => ?_)
  have hP : va_P (dC, dI) vwCl [(h21, .inr (2, [.int 0, .ref (zz 0), v22]))] H := hP
  have hD : va_D A [(h21, .inr (2, [.int 0, .ref (zz 0), v22]))] := hD
  have hP9 := hP.sub (ws' := [(h21, .inr (2, [.int 0, .ref (zz 0), v22]))]) [0] rfl
  have hD9 := hD.sub (ws' := [(h21, .inr (2, [.int 0, .ref (zz 0), v22]))]) [0] (by decide) rfl
  have hK9 := hK.sub (tys' := []) [] rfl
  exact W.vret hx hb hr (fun t ht hW => ⟨⟨(), rfl, trivial, by rw [ht]; exact hP9, va_K.moved hW.alike hK9, hD9⟩, hS.F ht⟩) hS.2.2 dJx4a65c_init_da8c8_11
set_option maxHeartbeats 4000000 in
set_option maxRecDepth 100000 in
theorem m_X5_init_0 (l : Launch) (dC : Nat → ClassId) (dI : Nat → Nat → Nat) (sz : Nat) (zz : Nat → Nat) (h9 : Nat) (h10 : Nat) (v11 : Value) (v12 : Value) (v13 : Value) (v14 : Value) (v15 : Value) (v16 : Value) (v17 : Value) (v18 : Value) (v19 : Value)   : Met l yX5_init wsX5_init ({ frames := 4, cells := 2, slots := 6, locals := 72 }) (va_Pc [.ref h9, .ref h10, .int 2] (fun U => U.heap.size = sz ∧ va_P (dC, dI) vwCl [(h9, .inr (7, [.null, .int 0, v11, v12, .null, .null, v13, v14, v15, v16, v17, v18, v19]))] U.heap ∧ va_K (dC, dI) vwCl [] U ∧ va_D (fun _ => True) [(h9, .inr (7, [.null, .int 0, v11, v12, .null, .null, v13, v14, v15, v16, v17, v18, v19]))] ∧ SR zz (va_A [(h9, .inr (7, [.null, .int 0, v11, v12, .null, .null, v13, v14, v15, v16, v17, v18, v19]))] sz) U U.heap)) (va_Qv (fun (_ : Nat × Nat) => True) (fun (u : Nat × Nat) t => match u with | (q20, q30) => va_P (dC, dI) vwCl [(h9, .inr (7, [.ref h10, .int 2, v11, v12, .ref q20, .ref q30, v13, v14, v15, v16, v17, v18, v19])), (q20, .inr (2, [.int 0, .ref (zz 0), .int 0])), (q30, .inr (2, [.int 0, .ref (zz 0), .int 0]))] t.heap ∧ va_K (dC, dI) vwCl [] t ∧ va_D (va_A [(h9, .inr (7, [.null, .int 0, v11, v12, .null, .null, v13, v14, v15, v16, v17, v18, v19]))] sz) [(h9, .inr (7, [.ref h10, .int 2, v11, v12, .ref q20, .ref q30, v13, v14, v15, v16, v17, v18, v19])), (q20, .inr (2, [.int 0, .ref (zz 0), .int 0])), (q30, .inr (2, [.int 0, .ref (zz 0), .int 0]))]) (va_A [(h9, .inr (7, [.null, .int 0, v11, v12, .null, .null, v13, v14, v15, v16, v17, v18, v19]))] sz)) 2 6 (va_A [(h9, .inr (7, [.null, .int 0, v11, v12, .null, .null, v13, v14, v15, v16, v17, v18, v19]))] sz) := by
  refine Met.ofW (cc := cX5_init) (maxL := 3) (ret := none) (by decide) rfl ?_
  intro p e s m args below meth c s₁ B hml hv
  obtain ⟨rfl, hsz, hP, hK, hD0, hZ⟩ := hv
  have hx := B.exec
  have hb := B.bytes
  have hr := B.returns
  have hts := atoms_spec (ws := wsX5_init) B.pre
  have hown : s.vm.findClass RX5 = some m.cls := findClass_of_methodNamed B.named
  have hlocks := B.notSynchronized
  have hin : meth.name = "<init>" := (name_of_methodNamed B.named B.method).1
  have hinJx4a65c : ∀ w ∈ wsJx4a65c0, w ∈ wsX5_init := fun w h => List.mem_cons_of_mem _ (List.mem_append_left _ (List.mem_append_right _ (h)))
  have hinX5 : ∀ w ∈ wsX50, w ∈ wsX5_init := fun w h => List.mem_cons_of_mem _ (List.mem_append_right _ (h))
  subst hsz
  have hD := hD0.self (sz := s.heap.size)
  generalize hAe : va_A [(h9, .inr (7, [.null, .int 0, v11, v12, .null, .null, v13, v14, v15, v16, v17, v18, v19]))] s.heap.size = A at hD hZ ⊢
  have hA : ∀ q : Nat, s.heap.size ≤ q → A q := fun q h => by rw [← hAe]; exact Or.inr h
  have hS : va_S A s.heap s.heap [] := va_S.rf
  have hl := lv_entry ([.ref h9, .ref h10, .int 2]) (n := 3) (Nat.le_of_ble_eq_true rfl)
  rw [lg_entry_eq]
  generalize (lg_sl ([.ref h9, .ref h10, .int 2]) ++ List.replicate (3 - (lg_sl ([.ref h9, .ref h10, .int 2])).length) Slot.unset).toArray = ls at hl ⊢
  have hl : lv_has ls 3 [(0, .ref h9), (1, .ref h10), (2, .int 2)] := hl
  refine lv_aload_n hx hb dX5_init_0 rfl (lv_at hl 0 rfl) ?_
  refine W.objInit hx hb hown (hts (.methodLink RX5 1 objectInit) (by decide +kernel)) (hts (.instanceMethod objectInit) (by decide +kernel)) (hts (.code objectInit ⟨#[0xb1]⟩ 1 none) (by decide +kernel)) rfl (by rw [hml]; exact hl.1) rfl dX5_init_1 (Nat.le_of_ble_eq_true rfl) (Nat.le_of_ble_eq_true rfl) ?_
  refine W.eq (g2 := F0 m 4 ls []) rfl ?_
  refine lv_aload_n hx hb dX5_init_4 rfl (lv_at hl 0 rfl) ?_
  refine va_new (ci := 2) (fs := [.int 0, .null, .int 0]) (C := RJx4a65c) (T := TJx4a65c) (N := 3) hx hb hts hinJx4a65c tyJx4a65c tyJx4a65c_ok hown (hts (.classLink RX5 7 RJx4a65c) (by decide +kernel)) (hts (.instantiable RJx4a65c 3) (by decide +kernel)) (hts (.initialized RJx4a65c) (by decide +kernel)) hK hP hD hS hA rfl (fun j hj => by rcases (show j = 0 ∨ j = 1 ∨ j = 2 by omega) with rfl | rfl | rfl <;> rfl) (Nat.le_of_ble_eq_true rfl) (Nat.le_of_ble_eq_true rfl) dX5_init_5 (fun q20 H hP hD hS => ?_)
  have hP : va_P (dC, dI) vwCl [(h9, .inr (7, [.null, .int 0, v11, v12, .null, .null, v13, v14, v15, v16, v17, v18, v19])), (q20, .inr (2, [.int 0, .null, .int 0]))] H := hP
  have hD : va_D A [(h9, .inr (7, [.null, .int 0, v11, v12, .null, .null, v13, v14, v15, v16, v17, v18, v19])), (q20, .inr (2, [.int 0, .null, .int 0]))] := hD
  refine W.widen (k := 1) (n := 3) (Nat.le_of_ble_eq_true rfl) (Nat.le_of_ble_eq_true rfl) ?_
  refine lv_dup hx hb dX5_init_8 rfl ?_
  have hPc := hP.sub (ws' := [(q20, .inr (2, [.int 0, .null, .int 0]))]) [1] rfl
  have hDc := hD.sub (ws' := [(q20, .inr (2, [.int 0, .null, .int 0]))]) [1] (by decide) rfl
  have hKc := hK.sub (tys' := []) [] rfl
  have hFc := va_free (wc := [(q20, .inr (2, [.int 0, .null, .int 0]))]) hD hS hA [1] rfl
  refine va_callv (va_runI (As := []) (rest := [.ref q20, .ref h9]) ⟨hx, hb, hml, hown, hts⟩ (m_Jx4a65c_init_da8c8_0 l dC dI H.size zz q20 (.int 0)) (cwI 0 hts gX5_init_Jx4a65c_init_da8c8 rfl rfl rfl (hts (.initialized RJx4a65c) (by decide +kernel)) (hts (.methodLink RX5 9 yJx4a65c_init_da8c8) (by decide +kernel)) (hts (.instanceMethod yJx4a65c_init_da8c8) (by decide +kernel)) rfl (by decide +kernel) ⟨Nat.le_of_ble_eq_true rfl, Nat.le_of_ble_eq_true rfl⟩) ⟨(fun a U g mk q => by obtain ⟨q0, q1, qP, qK, qD, qZ⟩ := q; exact ⟨q0, q1, qP, va_K.moved (u := U) (U := U.calling g mk a) (Vm.Alike.refl U.vm) qK, qD, SR.moved (u := U) (U := U.calling g mk a) (State.WarmedH.refl U) qZ⟩), (fun U hU hW => ⟨rfl, by rw [hU], by rw [hU]; exact hPc, va_K.moved hW.alike hKc, hDc.weaken (fun _ _ _ _ => trivial), by rw [hU]; exact SR.moved hW (SR.narrow (SR.kept hZ hS.2.1) hFc)⟩)⟩ rfl rfl hl.1 rfl (lv_room (Nat.le_of_ble_eq_true rfl)) dX5_init_9 ⟨(Nat.le_of_ble_eq_true rfl), (Nat.le_of_ble_eq_true rfl)⟩) hS (fun q _ h => hFc q h) hFc (fun u t H1 locs ht hvm hw hB hz1 hk1 hS => ?_)
  obtain ⟨hP1, hK1, hD1⟩ := hB
  rw [ht] at hP1
  have hK1 := va_K.moved hvm.symm hK1
  obtain ⟨hP, hD⟩ := va_join (wr := [(h9, .inr (7, [.null, .int 0, v11, v12, .null, .null, v13, v14, v15, v16, v17, v18, v19]))]) (w1 := [(q20, .inr (2, [.int 0, .ref (zz 0), .int 0]))]) hP hD [1] [0] rfl rfl (by decide) (by decide) hk1 hFc hP1 hD1
  generalize H1 = H at hP hS ⊢
  have hP : va_P (dC, dI) vwCl [(h9, .inr (7, [.null, .int 0, v11, v12, .null, .null, v13, v14, v15, v16, v17, v18, v19])), (q20, .inr (2, [.int 0, .ref (zz 0), .int 0]))] H := hP
  have hD : va_D A [(h9, .inr (7, [.null, .int 0, v11, v12, .null, .null, v13, v14, v15, v16, v17, v18, v19])), (q20, .inr (2, [.int 0, .ref (zz 0), .int 0]))] := hD
  refine W.widen (k := 1) (n := 3) (Nat.le_of_ble_eq_true rfl) (Nat.le_of_ble_eq_true rfl) ?_
  refine va_putF (D := (dC, dI)) (ci := 7) (v := .ref q20) (ty := (.object "java/util/ArrayList")) (C := RX5) (T := TX5) (N := 13) hx hb hts hinX5 tyX5 tyX5_ok nmX5 hown hK hP hD hS 0 rfl rfl 4 (by decide) (hts (.fieldLink RX5 10 "GoalHouse$Proc" "names" "Ljava/util/ArrayList;") (by decide +kernel)) (fun _ h9 => h9) rfl hin rfl (by decide +kernel) rfl rfl (Nat.le_of_ble_eq_true rfl) dX5_init_12 (fun H locs hP hD hS => ?_)
  have hP : va_P (dC, dI) vwCl [(h9, .inr (7, [.null, .int 0, v11, v12, .ref q20, .null, v13, v14, v15, v16, v17, v18, v19])), (q20, .inr (2, [.int 0, .ref (zz 0), .int 0]))] H := hP
  have hD : va_D A [(h9, .inr (7, [.null, .int 0, v11, v12, .ref q20, .null, v13, v14, v15, v16, v17, v18, v19])), (q20, .inr (2, [.int 0, .ref (zz 0), .int 0]))] := hD
  refine lv_aload_n hx hb dX5_init_15 rfl (lv_at hl 0 rfl) ?_
  refine va_new (ci := 2) (fs := [.int 0, .null, .int 0]) (C := RJx4a65c) (T := TJx4a65c) (N := 3) hx hb hts hinJx4a65c tyJx4a65c tyJx4a65c_ok hown (hts (.classLink RX5 7 RJx4a65c) (by decide +kernel)) (hts (.instantiable RJx4a65c 3) (by decide +kernel)) (hts (.initialized RJx4a65c) (by decide +kernel)) hK hP hD hS hA rfl (fun j hj => by rcases (show j = 0 ∨ j = 1 ∨ j = 2 by omega) with rfl | rfl | rfl <;> rfl) (Nat.le_of_ble_eq_true rfl) (Nat.le_of_ble_eq_true rfl) dX5_init_16 (fun q30 H hP hD hS => ?_)
  have hP : va_P (dC, dI) vwCl [(h9, .inr (7, [.null, .int 0, v11, v12, .ref q20, .null, v13, v14, v15, v16, v17, v18, v19])), (q20, .inr (2, [.int 0, .ref (zz 0), .int 0])), (q30, .inr (2, [.int 0, .null, .int 0]))] H := hP
  have hD : va_D A [(h9, .inr (7, [.null, .int 0, v11, v12, .ref q20, .null, v13, v14, v15, v16, v17, v18, v19])), (q20, .inr (2, [.int 0, .ref (zz 0), .int 0])), (q30, .inr (2, [.int 0, .null, .int 0]))] := hD
  refine W.widen (k := 2) (n := 6) (Nat.le_of_ble_eq_true rfl) (Nat.le_of_ble_eq_true rfl) ?_
  refine lv_dup hx hb dX5_init_19 rfl ?_
  have hPc := hP.sub (ws' := [(q30, .inr (2, [.int 0, .null, .int 0]))]) [2] rfl
  have hDc := hD.sub (ws' := [(q30, .inr (2, [.int 0, .null, .int 0]))]) [2] (by decide) rfl
  have hKc := hK.sub (tys' := []) [] rfl
  have hFc := va_free (wc := [(q30, .inr (2, [.int 0, .null, .int 0]))]) hD hS hA [2] rfl
  refine va_callv (va_runI (As := []) (rest := [.ref q30, .ref h9]) ⟨hx, hb, hml, hown, hts⟩ (m_Jx4a65c_init_da8c8_0 l dC dI H.size zz q30 (.int 0)) (cwI 0 hts gX5_init_Jx4a65c_init_da8c8 rfl rfl rfl (hts (.initialized RJx4a65c) (by decide +kernel)) (hts (.methodLink RX5 9 yJx4a65c_init_da8c8) (by decide +kernel)) (hts (.instanceMethod yJx4a65c_init_da8c8) (by decide +kernel)) rfl (by decide +kernel) ⟨Nat.le_of_ble_eq_true rfl, Nat.le_of_ble_eq_true rfl⟩) ⟨(fun a U g mk q => by obtain ⟨q0, q1, qP, qK, qD, qZ⟩ := q; exact ⟨q0, q1, qP, va_K.moved (u := U) (U := U.calling g mk a) (Vm.Alike.refl U.vm) qK, qD, SR.moved (u := U) (U := U.calling g mk a) (State.WarmedH.refl U) qZ⟩), (fun U hU hW => ⟨rfl, by rw [hU], by rw [hU]; exact hPc, va_K.moved hW.alike hKc, hDc.weaken (fun _ _ _ _ => trivial), by rw [hU]; exact SR.moved hW (SR.narrow (SR.kept hZ hS.2.1) hFc)⟩)⟩ rfl rfl hl.1 rfl (lv_room (Nat.le_of_ble_eq_true rfl)) dX5_init_20 ⟨(Nat.le_of_ble_eq_true rfl), (Nat.le_of_ble_eq_true rfl)⟩) hS (fun q _ h => hFc q h) hFc (fun u t H1 locs ht hvm hw hB hz1 hk1 hS => ?_)
  obtain ⟨hP1, hK1, hD1⟩ := hB
  rw [ht] at hP1
  have hK1 := va_K.moved hvm.symm hK1
  obtain ⟨hP, hD⟩ := va_join (wr := [(h9, .inr (7, [.null, .int 0, v11, v12, .ref q20, .null, v13, v14, v15, v16, v17, v18, v19])), (q20, .inr (2, [.int 0, .ref (zz 0), .int 0]))]) (w1 := [(q30, .inr (2, [.int 0, .ref (zz 0), .int 0]))]) hP hD [2] [0, 1] rfl rfl (by decide) (by decide) hk1 hFc hP1 hD1
  generalize H1 = H at hP hS ⊢
  have hP : va_P (dC, dI) vwCl [(h9, .inr (7, [.null, .int 0, v11, v12, .ref q20, .null, v13, v14, v15, v16, v17, v18, v19])), (q20, .inr (2, [.int 0, .ref (zz 0), .int 0])), (q30, .inr (2, [.int 0, .ref (zz 0), .int 0]))] H := hP
  have hD : va_D A [(h9, .inr (7, [.null, .int 0, v11, v12, .ref q20, .null, v13, v14, v15, v16, v17, v18, v19])), (q20, .inr (2, [.int 0, .ref (zz 0), .int 0])), (q30, .inr (2, [.int 0, .ref (zz 0), .int 0]))] := hD
  refine W.widen (k := 2) (n := 6) (Nat.le_of_ble_eq_true rfl) (Nat.le_of_ble_eq_true rfl) ?_
  refine va_putF (D := (dC, dI)) (ci := 7) (v := .ref q30) (ty := (.object "java/util/ArrayList")) (C := RX5) (T := TX5) (N := 13) hx hb hts hinX5 tyX5 tyX5_ok nmX5 hown hK hP hD hS 0 rfl rfl 5 (by decide) (hts (.fieldLink RX5 16 "GoalHouse$Proc" "statics" "Ljava/util/ArrayList;") (by decide +kernel)) (fun _ h9 => h9) rfl hin rfl (by decide +kernel) rfl rfl (Nat.le_of_ble_eq_true rfl) dX5_init_23 (fun H locs hP hD hS => ?_)
  have hP : va_P (dC, dI) vwCl [(h9, .inr (7, [.null, .int 0, v11, v12, .ref q20, .ref q30, v13, v14, v15, v16, v17, v18, v19])), (q20, .inr (2, [.int 0, .ref (zz 0), .int 0])), (q30, .inr (2, [.int 0, .ref (zz 0), .int 0]))] H := hP
  have hD : va_D A [(h9, .inr (7, [.null, .int 0, v11, v12, .ref q20, .ref q30, v13, v14, v15, v16, v17, v18, v19])), (q20, .inr (2, [.int 0, .ref (zz 0), .int 0])), (q30, .inr (2, [.int 0, .ref (zz 0), .int 0]))] := hD
  refine lv_aload_n hx hb dX5_init_26 rfl (lv_at hl 0 rfl) ?_
  refine lv_aload_n hx hb dX5_init_27 rfl (lv_at hl 1 rfl) ?_
  refine va_putF (D := (dC, dI)) (ci := 7) (v := .ref h10) (ty := (.object "java/lang/String")) (C := RX5) (T := TX5) (N := 13) hx hb hts hinX5 tyX5 tyX5_ok nmX5 hown hK hP hD hS 0 rfl rfl 0 (by decide) (hts (.fieldLink RX5 19 "GoalHouse$Proc" "name" "Ljava/lang/String;") (by decide +kernel)) (fun _ h9 => h9) rfl hin rfl (by decide +kernel) rfl rfl (Nat.le_of_ble_eq_true rfl) dX5_init_28 (fun H locs hP hD hS => ?_)
  have hP : va_P (dC, dI) vwCl [(h9, .inr (7, [.ref h10, .int 0, v11, v12, .ref q20, .ref q30, v13, v14, v15, v16, v17, v18, v19])), (q20, .inr (2, [.int 0, .ref (zz 0), .int 0])), (q30, .inr (2, [.int 0, .ref (zz 0), .int 0]))] H := hP
  have hD : va_D A [(h9, .inr (7, [.ref h10, .int 0, v11, v12, .ref q20, .ref q30, v13, v14, v15, v16, v17, v18, v19])), (q20, .inr (2, [.int 0, .ref (zz 0), .int 0])), (q30, .inr (2, [.int 0, .ref (zz 0), .int 0]))] := hD
  refine lv_aload_n hx hb dX5_init_31 rfl (lv_at hl 0 rfl) ?_
  refine lv_iload_n hx hb dX5_init_32 rfl (lv_at hl 2 rfl) ?_
  refine va_putF (D := (dC, dI)) (ci := 7) (v := .int 2) (ty := .int) (C := RX5) (T := TX5) (N := 13) hx hb hts hinX5 tyX5 tyX5_ok nmX5 hown hK hP hD hS 0 rfl rfl 1 (by decide) (hts (.fieldLink RX5 23 "GoalHouse$Proc" "kind" "I") (by decide +kernel)) (fun _ h9 => h9) rfl hin rfl (by decide +kernel) rfl rfl (Nat.le_of_ble_eq_true rfl) dX5_init_33 (fun H locs hP hD hS => ?_)
  have hP : va_P (dC, dI) vwCl [(h9, .inr (7, [.ref h10, .int 2, v11, v12, .ref q20, .ref q30, v13, v14, v15, v16, v17, v18, v19])), (q20, .inr (2, [.int 0, .ref (zz 0), .int 0])), (q30, .inr (2, [.int 0, .ref (zz 0), .int 0]))] H := hP
  have hD : va_D A [(h9, .inr (7, [.ref h10, .int 2, v11, v12, .ref q20, .ref q30, v13, v14, v15, v16, v17, v18, v19])), (q20, .inr (2, [.int 0, .ref (zz 0), .int 0])), (q30, .inr (2, [.int 0, .ref (zz 0), .int 0]))] := hD
  have hP9 := hP.sub (ws' := [(h9, .inr (7, [.ref h10, .int 2, v11, v12, .ref q20, .ref q30, v13, v14, v15, v16, v17, v18, v19])), (q20, .inr (2, [.int 0, .ref (zz 0), .int 0])), (q30, .inr (2, [.int 0, .ref (zz 0), .int 0]))]) [0, 1, 2] rfl
  have hD9 := hD.sub (ws' := [(h9, .inr (7, [.ref h10, .int 2, v11, v12, .ref q20, .ref q30, v13, v14, v15, v16, v17, v18, v19])), (q20, .inr (2, [.int 0, .ref (zz 0), .int 0])), (q30, .inr (2, [.int 0, .ref (zz 0), .int 0]))]) [0, 1, 2] (by decide) rfl
  have hK9 := hK.sub (tys' := []) [] rfl
  exact W.vret hx hb hr (fun t ht hW => ⟨⟨(q20, q30), rfl, trivial, by rw [ht]; exact hP9, va_K.moved hW.alike hK9, hD9⟩, hS.F ht⟩) hS.2.2 dX5_init_36
set_option maxHeartbeats 4000000 in
set_option maxRecDepth 100000 in
theorem m_X11_init_0 (l : Launch) (dC : Nat → ClassId) (dI : Nat → Nat → Nat) (sz : Nat) (zz : Nat → Nat) (h36 : Nat) (v37 : Value) (v38 : Value) (v39 : Value) (v40 : Value) (v41 : Value) (v42 : Value) (v43 : Value) (v44 : Value) (v45 : Value) (v46 : Value)   : Met l yX11_init wsX11_init ({ frames := 1, cells := 0, slots := 0, locals := 12 }) (va_Pc [.ref h36, .int 4] (fun U => U.heap.size = sz ∧ va_P (dC, dI) vwCl [(h36, .inr (13, [.int 0, v37, v38, v39, v40, v41, v42, v43, v44, v45, v46]))] U.heap ∧ va_K (dC, dI) vwCl [] U ∧ va_D (fun _ => True) [(h36, .inr (13, [.int 0, v37, v38, v39, v40, v41, v42, v43, v44, v45, v46]))] ∧ SR zz (va_A [(h36, .inr (13, [.int 0, v37, v38, v39, v40, v41, v42, v43, v44, v45, v46]))] sz) U U.heap)) (va_Qv (fun (_ : Unit) => True) (fun (u : Unit) t => match u with | () => va_P (dC, dI) vwCl [(h36, .inr (13, [.int 4, v37, v38, v39, v40, v41, v42, v43, v44, v45, v46]))] t.heap ∧ va_K (dC, dI) vwCl [] t ∧ va_D (va_A [(h36, .inr (13, [.int 0, v37, v38, v39, v40, v41, v42, v43, v44, v45, v46]))] sz) [(h36, .inr (13, [.int 4, v37, v38, v39, v40, v41, v42, v43, v44, v45, v46]))]) (va_A [(h36, .inr (13, [.int 0, v37, v38, v39, v40, v41, v42, v43, v44, v45, v46]))] sz)) 0 0 (va_A [(h36, .inr (13, [.int 0, v37, v38, v39, v40, v41, v42, v43, v44, v45, v46]))] sz) := by
  refine Met.ofW (cc := cX11_init) (maxL := 2) (ret := none) (by decide) rfl ?_
  intro p e s m args below meth c s₁ B hml hv
  obtain ⟨rfl, hsz, hP, hK, hD0, hZ⟩ := hv
  have hx := B.exec
  have hb := B.bytes
  have hr := B.returns
  have hts := atoms_spec (ws := wsX11_init) B.pre
  have hown : s.vm.findClass RX11 = some m.cls := findClass_of_methodNamed B.named
  have hlocks := B.notSynchronized
  have hin : meth.name = "<init>" := (name_of_methodNamed B.named B.method).1
  have hinX11 : ∀ w ∈ wsX110, w ∈ wsX11_init := fun w h => List.mem_cons_of_mem _ (List.mem_append_right _ (h))
  subst hsz
  have hD := hD0.self (sz := s.heap.size)
  generalize hAe : va_A [(h36, .inr (13, [.int 0, v37, v38, v39, v40, v41, v42, v43, v44, v45, v46]))] s.heap.size = A at hD hZ ⊢
  have hA : ∀ q : Nat, s.heap.size ≤ q → A q := fun q h => by rw [← hAe]; exact Or.inr h
  have hS : va_S A s.heap s.heap [] := va_S.rf
  have hl := lv_entry ([.ref h36, .int 4]) (n := 2) (Nat.le_of_ble_eq_true rfl)
  rw [lg_entry_eq]
  generalize (lg_sl ([.ref h36, .int 4]) ++ List.replicate (2 - (lg_sl ([.ref h36, .int 4])).length) Slot.unset).toArray = ls at hl ⊢
  have hl : lv_has ls 2 [(0, .ref h36), (1, .int 4)] := hl
  refine lv_aload_n hx hb dX11_init_0 rfl (lv_at hl 0 rfl) ?_
  refine W.objInit hx hb hown (hts (.methodLink RX11 1 objectInit) (by decide +kernel)) (hts (.instanceMethod objectInit) (by decide +kernel)) (hts (.code objectInit ⟨#[0xb1]⟩ 1 none) (by decide +kernel)) rfl (by rw [hml]; exact hl.1) rfl dX11_init_1 (Nat.le_of_ble_eq_true rfl) (Nat.le_of_ble_eq_true rfl) ?_
  refine W.eq (g2 := F0 m 4 ls []) rfl ?_
  refine lv_aload_n hx hb dX11_init_4 rfl (lv_at hl 0 rfl) ?_
  refine lv_iload_n hx hb dX11_init_5 rfl (lv_at hl 1 rfl) ?_
  refine va_putF (D := (dC, dI)) (ci := 13) (v := .int 4) (ty := .int) (C := RX11) (T := TX11) (N := 11) hx hb hts hinX11 tyX11 tyX11_ok nmX11 hown hK hP hD hS 0 rfl rfl 0 (by decide) (hts (.fieldLink RX11 7 "GoalHouse$Val" "kind" "I") (by decide +kernel)) (fun _ h9 => h9) rfl hin rfl (by decide +kernel) rfl rfl (Nat.le_of_ble_eq_true rfl) dX11_init_6 (fun H locs hP hD hS => ?_)
  have hP : va_P (dC, dI) vwCl [(h36, .inr (13, [.int 4, v37, v38, v39, v40, v41, v42, v43, v44, v45, v46]))] H := hP
  have hD : va_D A [(h36, .inr (13, [.int 4, v37, v38, v39, v40, v41, v42, v43, v44, v45, v46]))] := hD
  have hP9 := hP.sub (ws' := [(h36, .inr (13, [.int 4, v37, v38, v39, v40, v41, v42, v43, v44, v45, v46]))]) [0] rfl
  have hD9 := hD.sub (ws' := [(h36, .inr (13, [.int 4, v37, v38, v39, v40, v41, v42, v43, v44, v45, v46]))]) [0] (by decide) rfl
  have hK9 := hK.sub (tys' := []) [] rfl
  exact W.vret hx hb hr (fun t ht hW => ⟨⟨(), rfl, trivial, by rw [ht]; exact hP9, va_K.moved hW.alike hK9, hD9⟩, hS.F ht⟩) hS.2.2 dX11_init_9
set_option maxHeartbeats 4000000 in
set_option maxRecDepth 100000 in
theorem m_X5_make_0 (l : Launch) (dC : Nat → ClassId) (dI : Nat → Nat → Nat) (sz : Nat) (zz : Nat → Nat) (h5 : Nat)   : Met l yX5_make wsX5_make ({ frames := 5, cells := 4, slots := 30, locals := 94 }) (va_Pc [.ref h5, .int 2, .int 5] (fun U => U.heap.size = sz ∧ va_P (dC, dI) vwCl [] U.heap ∧ va_K (dC, dI) vwCl [] U ∧ va_D (fun _ => True) [] ∧ SR zz (va_A [] sz) U U.heap)) (va_Qr (fun (_ : Nat × Nat × Nat) => True) (fun (u : Nat × Nat × Nat) (q6 : Nat) t => match u with | (q33, q34, q35) => va_P (dC, dI) vwCl [(q6, .inr (7, [.ref h5, .int 2, .int 5, .int 0, .ref q33, .ref q34, .int 0, .int 0, .int 0, .int 0, .null, .null, .ref q35])), (q33, .inr (2, [.int 0, .ref (zz 0), .int 0])), (q34, .inr (2, [.int 0, .ref (zz 0), .int 0])), (q35, .inr (13, [.int 4, .long 0, .null, .null, .int 0, .int 0, .null, .null, .null, .null, .ref q6]))] t.heap ∧ va_K (dC, dI) vwCl [] t ∧ va_D (va_A [] sz) [(q6, .inr (7, [.ref h5, .int 2, .int 5, .int 0, .ref q33, .ref q34, .int 0, .int 0, .int 0, .int 0, .null, .null, .ref q35])), (q33, .inr (2, [.int 0, .ref (zz 0), .int 0])), (q34, .inr (2, [.int 0, .ref (zz 0), .int 0])), (q35, .inr (13, [.int 4, .long 0, .null, .null, .int 0, .int 0, .null, .null, .null, .null, .ref q6]))]) (va_A [] sz)) 4 30 (va_A [] sz) := by
  refine Met.ofW (cc := cX5_make) (maxL := 4) (ret := (some (.object "GoalHouse$Proc"))) (by decide) rfl ?_
  intro p e s m args below meth c s₁ B hml hv
  obtain ⟨rfl, hsz, hP, hK, hD0, hZ⟩ := hv
  have hx := B.exec
  have hb := B.bytes
  have hr := B.returns
  have hts := atoms_spec (ws := wsX5_make) B.pre
  have hown : s.vm.findClass RX5 = some m.cls := findClass_of_methodNamed B.named
  have hlocks := B.notSynchronized
  have hinX5 : ∀ w ∈ wsX50, w ∈ wsX5_make := fun w h => List.mem_cons_of_mem _ (List.mem_append_left _ (List.mem_append_left _ (List.mem_append_right _ (h))))
  have hinX11 : ∀ w ∈ wsX110, w ∈ wsX5_make := fun w h => List.mem_cons_of_mem _ (List.mem_append_left _ (List.mem_append_right _ (h)))
  subst hsz
  have hD := hD0.self (sz := s.heap.size)
  generalize hAe : va_A [] s.heap.size = A at hD hZ ⊢
  have hA : ∀ q : Nat, s.heap.size ≤ q → A q := fun q h => by rw [← hAe]; exact Or.inr h
  have hS : va_S A s.heap s.heap [] := va_S.rf
  have hl := lv_entry ([.ref h5, .int 2, .int 5]) (n := 4) (Nat.le_of_ble_eq_true rfl)
  rw [lg_entry_eq]
  generalize (lg_sl ([.ref h5, .int 2, .int 5]) ++ List.replicate (4 - (lg_sl ([.ref h5, .int 2, .int 5])).length) Slot.unset).toArray = ls at hl ⊢
  have hl : lv_has ls 4 [(0, .ref h5), (1, .int 2), (2, .int 5)] := hl
  refine va_new (ci := 7) (fs := [.null, .int 0, .int 0, .int 0, .null, .null, .int 0, .int 0, .int 0, .int 0, .null, .null, .null]) (C := RX5) (T := TX5) (N := 13) hx hb hts hinX5 tyX5 tyX5_ok hown (hts (.classLink RX5 11 RX5) (by decide +kernel)) (hts (.instantiable RX5 13) (by decide +kernel)) (hts (.initialized RX5) (by decide +kernel)) hK hP hD hS hA rfl (fun j hj => by rcases (show j = 0 ∨ j = 1 ∨ j = 2 ∨ j = 3 ∨ j = 4 ∨ j = 5 ∨ j = 6 ∨ j = 7 ∨ j = 8 ∨ j = 9 ∨ j = 10 ∨ j = 11 ∨ j = 12 by omega) with rfl | rfl | rfl | rfl | rfl | rfl | rfl | rfl | rfl | rfl | rfl | rfl | rfl <;> rfl) (Nat.le_of_ble_eq_true rfl) (Nat.le_of_ble_eq_true rfl) dX5_make_0 (fun q6 H hP hD hS => ?_)
  have hP : va_P (dC, dI) vwCl [(q6, .inr (7, [.null, .int 0, .int 0, .int 0, .null, .null, .int 0, .int 0, .int 0, .int 0, .null, .null, .null]))] H := hP
  have hD : va_D A [(q6, .inr (7, [.null, .int 0, .int 0, .int 0, .null, .null, .int 0, .int 0, .int 0, .int 0, .null, .null, .null]))] := hD
  refine W.widen (k := 1) (n := 13) (Nat.le_of_ble_eq_true rfl) (Nat.le_of_ble_eq_true rfl) ?_
  refine lv_dup hx hb dX5_make_3 rfl ?_
  refine lv_aload_n hx hb dX5_make_4 rfl (lv_at hl 0 rfl) ?_
  refine lv_iload_n hx hb dX5_make_5 rfl (lv_at hl 1 rfl) ?_
  have hPc := hP.sub (ws' := [(q6, .inr (7, [.null, .int 0, .int 0, .int 0, .null, .null, .int 0, .int 0, .int 0, .int 0, .null, .null, .null]))]) [0] rfl
  have hDc := hD.sub (ws' := [(q6, .inr (7, [.null, .int 0, .int 0, .int 0, .null, .null, .int 0, .int 0, .int 0, .int 0, .null, .null, .null]))]) [0] (by decide) rfl
  have hKc := hK.sub (tys' := []) [] rfl
  have hFc := va_free (wc := [(q6, .inr (7, [.null, .int 0, .int 0, .int 0, .null, .null, .int 0, .int 0, .int 0, .int 0, .null, .null, .null]))]) hD hS hA [0] rfl
  refine va_callv (va_runI (As := [.ref h5, .int 2]) (rest := [.ref q6]) ⟨hx, hb, hml, hown, hts⟩ (m_X5_init_0 l dC dI H.size zz q6 h5 (.int 0) (.int 0) (.int 0) (.int 0) (.int 0) (.int 0) .null .null .null) (cwI 2 hts gX5_make_X5_init rfl rfl rfl (hts (.initialized RX5) (by decide +kernel)) (hts (.methodLink RX5 27 yX5_init) (by decide +kernel)) (hts (.instanceMethod yX5_init) (by decide +kernel)) rfl (by decide +kernel) ⟨Nat.le_of_ble_eq_true rfl, Nat.le_of_ble_eq_true rfl⟩) ⟨(fun a U g mk q => by obtain ⟨q0, q1, qP, qK, qD, qZ⟩ := q; exact ⟨q0, q1, qP, va_K.moved (u := U) (U := U.calling g mk a) (Vm.Alike.refl U.vm) qK, qD, SR.moved (u := U) (U := U.calling g mk a) (State.WarmedH.refl U) qZ⟩), (fun U hU hW => ⟨rfl, by rw [hU], by rw [hU]; exact hPc, va_K.moved hW.alike hKc, hDc.weaken (fun _ _ _ _ => trivial), by rw [hU]; exact SR.moved hW (SR.narrow (SR.kept hZ hS.2.1) hFc)⟩)⟩ rfl rfl hl.1 rfl (lv_room (Nat.le_of_ble_eq_true rfl)) dX5_make_6 ⟨(Nat.le_of_ble_eq_true rfl), (Nat.le_of_ble_eq_true rfl)⟩) hS (fun q _ h => hFc q h) hFc (fun u t H1 locs ht hvm hw hB hz1 hk1 hS => ?_)
  obtain ⟨q33, q34⟩ := u
  obtain ⟨hP1, hK1, hD1⟩ := hB
  rw [ht] at hP1
  have hK1 := va_K.moved hvm.symm hK1
  obtain ⟨hP, hD⟩ := va_join (wr := []) (w1 := [(q6, .inr (7, [.ref h5, .int 2, .int 0, .int 0, .ref q33, .ref q34, .int 0, .int 0, .int 0, .int 0, .null, .null, .null])), (q33, .inr (2, [.int 0, .ref (zz 0), .int 0])), (q34, .inr (2, [.int 0, .ref (zz 0), .int 0]))]) hP hD [0] [] rfl rfl (by decide) (by decide) hk1 hFc hP1 hD1
  generalize H1 = H at hP hS ⊢
  have hP : va_P (dC, dI) vwCl [(q6, .inr (7, [.ref h5, .int 2, .int 0, .int 0, .ref q33, .ref q34, .int 0, .int 0, .int 0, .int 0, .null, .null, .null])), (q33, .inr (2, [.int 0, .ref (zz 0), .int 0])), (q34, .inr (2, [.int 0, .ref (zz 0), .int 0]))] H := hP
  have hD : va_D A [(q6, .inr (7, [.ref h5, .int 2, .int 0, .int 0, .ref q33, .ref q34, .int 0, .int 0, .int 0, .int 0, .null, .null, .null])), (q33, .inr (2, [.int 0, .ref (zz 0), .int 0])), (q34, .inr (2, [.int 0, .ref (zz 0), .int 0]))] := hD
  refine W.widen (k := 3) (n := 19) (Nat.le_of_ble_eq_true rfl) (Nat.le_of_ble_eq_true rfl) ?_
  refine lv_astore_n (lv' := [(3, .ref q6), (0, .ref h5), (1, .int 2), (2, .int 5)]) hx hb dX5_make_9 rfl hl (by decide) rfl (fun ls hl => ?_)
  refine lv_aload_n hx hb dX5_make_10 rfl (lv_at hl 0 rfl) ?_
  refine lv_iload_n hx hb dX5_make_11 rfl (lv_at hl 3 rfl) ?_
  refine va_put (D := (dC, dI)) (ci := 7) (v := .int 5) (ty := .int) (C := RX5) (T := TX5) (N := 13) hx hb hts hinX5 tyX5 tyX5_ok nmX5 hown hK hP hD hS 0 rfl rfl 2 (by decide) (hts (.fieldLink RX5 30 "GoalHouse$Proc" "index" "I") (by decide +kernel)) (fun _ h9 => h9) rfl (by decide +kernel) rfl rfl (Nat.le_of_ble_eq_true rfl) dX5_make_12 (fun H locs hP hD hS => ?_)
  have hP : va_P (dC, dI) vwCl [(q6, .inr (7, [.ref h5, .int 2, .int 5, .int 0, .ref q33, .ref q34, .int 0, .int 0, .int 0, .int 0, .null, .null, .null])), (q33, .inr (2, [.int 0, .ref (zz 0), .int 0])), (q34, .inr (2, [.int 0, .ref (zz 0), .int 0]))] H := hP
  have hD : va_D A [(q6, .inr (7, [.ref h5, .int 2, .int 5, .int 0, .ref q33, .ref q34, .int 0, .int 0, .int 0, .int 0, .null, .null, .null])), (q33, .inr (2, [.int 0, .ref (zz 0), .int 0])), (q34, .inr (2, [.int 0, .ref (zz 0), .int 0]))] := hD
  refine lv_aload_n hx hb dX5_make_15 rfl (lv_at hl 0 rfl) ?_
  refine va_new (ci := 13) (fs := [.int 0, .long 0, .null, .null, .int 0, .int 0, .null, .null, .null, .null, .null]) (C := RX11) (T := TX11) (N := 11) hx hb hts hinX11 tyX11 tyX11_ok hown (hts (.classLink RX5 33 RX11) (by decide +kernel)) (hts (.instantiable RX11 11) (by decide +kernel)) (hts (.initialized RX11) (by decide +kernel)) hK hP hD hS hA rfl (fun j hj => by rcases (show j = 0 ∨ j = 1 ∨ j = 2 ∨ j = 3 ∨ j = 4 ∨ j = 5 ∨ j = 6 ∨ j = 7 ∨ j = 8 ∨ j = 9 ∨ j = 10 by omega) with rfl | rfl | rfl | rfl | rfl | rfl | rfl | rfl | rfl | rfl | rfl <;> rfl) (Nat.le_of_ble_eq_true rfl) (Nat.le_of_ble_eq_true rfl) dX5_make_16 (fun q35 H hP hD hS => ?_)
  have hP : va_P (dC, dI) vwCl [(q6, .inr (7, [.ref h5, .int 2, .int 5, .int 0, .ref q33, .ref q34, .int 0, .int 0, .int 0, .int 0, .null, .null, .null])), (q33, .inr (2, [.int 0, .ref (zz 0), .int 0])), (q34, .inr (2, [.int 0, .ref (zz 0), .int 0])), (q35, .inr (13, [.int 0, .long 0, .null, .null, .int 0, .int 0, .null, .null, .null, .null, .null]))] H := hP
  have hD : va_D A [(q6, .inr (7, [.ref h5, .int 2, .int 5, .int 0, .ref q33, .ref q34, .int 0, .int 0, .int 0, .int 0, .null, .null, .null])), (q33, .inr (2, [.int 0, .ref (zz 0), .int 0])), (q34, .inr (2, [.int 0, .ref (zz 0), .int 0])), (q35, .inr (13, [.int 0, .long 0, .null, .null, .int 0, .int 0, .null, .null, .null, .null, .null]))] := hD
  refine W.widen (k := 4) (n := 30) (Nat.le_of_ble_eq_true rfl) (Nat.le_of_ble_eq_true rfl) ?_
  refine lv_dup hx hb dX5_make_19 rfl ?_
  refine lv_iconst (v := 4) hx hb dX5_make_20 (by decide) ?_
  have hPc := hP.sub (ws' := [(q35, .inr (13, [.int 0, .long 0, .null, .null, .int 0, .int 0, .null, .null, .null, .null, .null]))]) [3] rfl
  have hDc := hD.sub (ws' := [(q35, .inr (13, [.int 0, .long 0, .null, .null, .int 0, .int 0, .null, .null, .null, .null, .null]))]) [3] (by decide) rfl
  have hKc := hK.sub (tys' := []) [] rfl
  have hFc := va_free (wc := [(q35, .inr (13, [.int 0, .long 0, .null, .null, .int 0, .int 0, .null, .null, .null, .null, .null]))]) hD hS hA [3] rfl
  refine va_callv (va_runI (As := [.int 4]) (rest := [.ref q35, .ref q6]) ⟨hx, hb, hml, hown, hts⟩ (m_X11_init_0 l dC dI H.size zz q35 (.long 0) .null .null (.int 0) (.int 0) .null .null .null .null .null) (cwI 1 hts gX5_make_X11_init rfl rfl rfl (hts (.initialized RX11) (by decide +kernel)) (hts (.methodLink RX5 35 yX11_init) (by decide +kernel)) (hts (.instanceMethod yX11_init) (by decide +kernel)) rfl (by decide +kernel) ⟨Nat.le_of_ble_eq_true rfl, Nat.le_of_ble_eq_true rfl⟩) ⟨(fun a U g mk q => by obtain ⟨q0, q1, qP, qK, qD, qZ⟩ := q; exact ⟨q0, q1, qP, va_K.moved (u := U) (U := U.calling g mk a) (Vm.Alike.refl U.vm) qK, qD, SR.moved (u := U) (U := U.calling g mk a) (State.WarmedH.refl U) qZ⟩), (fun U hU hW => ⟨rfl, by rw [hU], by rw [hU]; exact hPc, va_K.moved hW.alike hKc, hDc.weaken (fun _ _ _ _ => trivial), by rw [hU]; exact SR.moved hW (SR.narrow (SR.kept hZ hS.2.1) hFc)⟩)⟩ rfl rfl hl.1 rfl (lv_room (Nat.le_of_ble_eq_true rfl)) dX5_make_21 ⟨(Nat.le_of_ble_eq_true rfl), (Nat.le_of_ble_eq_true rfl)⟩) hS (fun q _ h => hFc q h) hFc (fun u t H1 locs ht hvm hw hB hz1 hk1 hS => ?_)
  obtain ⟨hP1, hK1, hD1⟩ := hB
  rw [ht] at hP1
  have hK1 := va_K.moved hvm.symm hK1
  obtain ⟨hP, hD⟩ := va_join (wr := [(q6, .inr (7, [.ref h5, .int 2, .int 5, .int 0, .ref q33, .ref q34, .int 0, .int 0, .int 0, .int 0, .null, .null, .null])), (q33, .inr (2, [.int 0, .ref (zz 0), .int 0])), (q34, .inr (2, [.int 0, .ref (zz 0), .int 0]))]) (w1 := [(q35, .inr (13, [.int 4, .long 0, .null, .null, .int 0, .int 0, .null, .null, .null, .null, .null]))]) hP hD [3] [0, 1, 2] rfl rfl (by decide) (by decide) hk1 hFc hP1 hD1
  generalize H1 = H at hP hS ⊢
  have hP : va_P (dC, dI) vwCl [(q6, .inr (7, [.ref h5, .int 2, .int 5, .int 0, .ref q33, .ref q34, .int 0, .int 0, .int 0, .int 0, .null, .null, .null])), (q33, .inr (2, [.int 0, .ref (zz 0), .int 0])), (q34, .inr (2, [.int 0, .ref (zz 0), .int 0])), (q35, .inr (13, [.int 4, .long 0, .null, .null, .int 0, .int 0, .null, .null, .null, .null, .null]))] H := hP
  have hD : va_D A [(q6, .inr (7, [.ref h5, .int 2, .int 5, .int 0, .ref q33, .ref q34, .int 0, .int 0, .int 0, .int 0, .null, .null, .null])), (q33, .inr (2, [.int 0, .ref (zz 0), .int 0])), (q34, .inr (2, [.int 0, .ref (zz 0), .int 0])), (q35, .inr (13, [.int 4, .long 0, .null, .null, .int 0, .int 0, .null, .null, .null, .null, .null]))] := hD
  refine W.widen (k := 4) (n := 30) (Nat.le_of_ble_eq_true rfl) (Nat.le_of_ble_eq_true rfl) ?_
  refine va_put (D := (dC, dI)) (ci := 7) (v := .ref q35) (ty := (.object "GoalHouse$Val")) (C := RX5) (T := TX5) (N := 13) hx hb hts hinX5 tyX5 tyX5_ok nmX5 hown hK hP hD hS 0 rfl rfl 12 (by decide) (hts (.fieldLink RX5 38 "GoalHouse$Proc" "val" "LGoalHouse$Val;") (by decide +kernel)) (fun _ h9 => h9) rfl (by decide +kernel) rfl rfl (Nat.le_of_ble_eq_true rfl) dX5_make_24 (fun H locs hP hD hS => ?_)
  have hP : va_P (dC, dI) vwCl [(q6, .inr (7, [.ref h5, .int 2, .int 5, .int 0, .ref q33, .ref q34, .int 0, .int 0, .int 0, .int 0, .null, .null, .ref q35])), (q33, .inr (2, [.int 0, .ref (zz 0), .int 0])), (q34, .inr (2, [.int 0, .ref (zz 0), .int 0])), (q35, .inr (13, [.int 4, .long 0, .null, .null, .int 0, .int 0, .null, .null, .null, .null, .null]))] H := hP
  have hD : va_D A [(q6, .inr (7, [.ref h5, .int 2, .int 5, .int 0, .ref q33, .ref q34, .int 0, .int 0, .int 0, .int 0, .null, .null, .ref q35])), (q33, .inr (2, [.int 0, .ref (zz 0), .int 0])), (q34, .inr (2, [.int 0, .ref (zz 0), .int 0])), (q35, .inr (13, [.int 4, .long 0, .null, .null, .int 0, .int 0, .null, .null, .null, .null, .null]))] := hD
  refine lv_aload_n hx hb dX5_make_27 rfl (lv_at hl 0 rfl) ?_
  refine va_get (D := (dC, dI)) (ci := 7) (v := .ref q35) (C := RX5) (T := TX5) (N := 13) hx hb hts hinX5 hown hK hP 0 rfl rfl 12 (by decide) (hts (.fieldLink RX5 38 "GoalHouse$Proc" "val" "LGoalHouse$Val;") (by decide +kernel)) (fun _ h9 => h9) rfl dX5_make_28 ?_
  refine lv_aload_n hx hb dX5_make_31 rfl (lv_at hl 0 rfl) ?_
  refine va_put (D := (dC, dI)) (ci := 13) (v := .ref q6) (ty := (.object "GoalHouse$Proc")) (C := RX11) (T := TX11) (N := 11) hx hb hts hinX11 tyX11 tyX11_ok nmX11 hown hK hP hD hS 3 rfl rfl 10 (by decide) (hts (.fieldLink RX5 42 "GoalHouse$Val" "proc" "LGoalHouse$Proc;") (by decide +kernel)) (fun _ h9 => h9) rfl (by decide +kernel) rfl rfl (Nat.le_of_ble_eq_true rfl) dX5_make_32 (fun H locs hP hD hS => ?_)
  have hP : va_P (dC, dI) vwCl [(q6, .inr (7, [.ref h5, .int 2, .int 5, .int 0, .ref q33, .ref q34, .int 0, .int 0, .int 0, .int 0, .null, .null, .ref q35])), (q33, .inr (2, [.int 0, .ref (zz 0), .int 0])), (q34, .inr (2, [.int 0, .ref (zz 0), .int 0])), (q35, .inr (13, [.int 4, .long 0, .null, .null, .int 0, .int 0, .null, .null, .null, .null, .ref q6]))] H := hP
  have hD : va_D A [(q6, .inr (7, [.ref h5, .int 2, .int 5, .int 0, .ref q33, .ref q34, .int 0, .int 0, .int 0, .int 0, .null, .null, .ref q35])), (q33, .inr (2, [.int 0, .ref (zz 0), .int 0])), (q34, .inr (2, [.int 0, .ref (zz 0), .int 0])), (q35, .inr (13, [.int 4, .long 0, .null, .null, .int 0, .int 0, .null, .null, .null, .null, .ref q6]))] := hD
  refine lv_aload_n hx hb dX5_make_35 rfl (lv_at hl 0 rfl) ?_
  have hP9 := hP.sub (ws' := [(q6, .inr (7, [.ref h5, .int 2, .int 5, .int 0, .ref q33, .ref q34, .int 0, .int 0, .int 0, .int 0, .null, .null, .ref q35])), (q33, .inr (2, [.int 0, .ref (zz 0), .int 0])), (q34, .inr (2, [.int 0, .ref (zz 0), .int 0])), (q35, .inr (13, [.int 4, .long 0, .null, .null, .int 0, .int 0, .null, .null, .null, .null, .ref q6]))]) [0, 1, 2, 3] rfl
  have hD9 := hD.sub (ws' := [(q6, .inr (7, [.ref h5, .int 2, .int 5, .int 0, .ref q33, .ref q34, .int 0, .int 0, .int 0, .int 0, .null, .null, .ref q35])), (q33, .inr (2, [.int 0, .ref (zz 0), .int 0])), (q34, .inr (2, [.int 0, .ref (zz 0), .int 0])), (q35, .inr (13, [.int 4, .long 0, .null, .null, .int 0, .int 0, .null, .null, .null, .null, .ref q6]))]) [0, 1, 2, 3] (by decide) rfl
  have hK9 := hK.sub (tys' := []) [] rfl
  exact W.aret (v := .ref q6) hx hb hr (Or.inl ⟨_, rfl⟩) (Or.inr ⟨_, rfl⟩) (fun t ht hW => ⟨⟨(q33, q34, q35), q6, rfl, trivial, by rw [ht]; exact hP9, va_K.moved hW.alike hK9, hD9⟩, hS.F ht⟩) hS.2.2 dX5_make_36
set_option maxHeartbeats 4000000 in
set_option maxRecDepth 100000 in
theorem m_J0_coder_7d493_0 (l : Launch) (dC : Nat → ClassId) (dI : Nat → Nat → Nat) (sz : Nat) (zz : Nat → Nat)    : Met l yJ0_coder_7d493 wsJ0_coder_7d493 ({ frames := 0, cells := 0, slots := 0, locals := 0 }) (va_Pc [.ref (zz 100)] (fun U => U.heap.size = sz ∧ va_P (dC, dI) vwCl [] U.heap ∧ va_K (dC, dI) vwCl [] U ∧ va_D (fun _ => True) [] ∧ SR zz (va_A [] sz) U U.heap)) (va_Qi (fun (r : Int32) (_ : Unit) => r = 0) (fun (u : Unit) t => match u with | () => va_P (dC, dI) vwCl [] t.heap ∧ va_K (dC, dI) vwCl [] t ∧ va_D (va_A [] sz) []) (va_A [] sz)) 0 0 (va_A [] sz) := by
  refine Met.ofW (cc := cJ0_coder_7d493) (maxL := 1) (ret := (some .byte)) (by decide) rfl ?_
  intro p e s m args below meth c s₁ B hml hv
  obtain ⟨rfl, hsz, hP, hK, hD0, hZ⟩ := hv
  have hx := B.exec
  have hb := B.bytes
  have hr := B.returns
  have hts := atoms_spec (ws := wsJ0_coder_7d493) B.pre
  have hown : s.vm.findClass RJ0 = some m.cls := findClass_of_methodNamed B.named
  have hlocks := B.notSynchronized
  subst hsz
  have hD := hD0.self (sz := s.heap.size)
  generalize hAe : va_A [] s.heap.size = A at hD hZ ⊢
  have hA : ∀ q : Nat, s.heap.size ≤ q → A q := fun q h => by rw [← hAe]; exact Or.inr h
  have hS : va_S A s.heap s.heap [] := va_S.rf
  have hl := lv_entry ([.ref (zz 100)]) (n := 1) (Nat.le_of_ble_eq_true rfl)
  rw [lg_entry_eq]
  generalize (lg_sl ([.ref (zz 100)]) ++ List.replicate (1 - (lg_sl ([.ref (zz 100)])).length) Slot.unset).toArray = ls at hl ⊢
  have hl : lv_has ls 1 [(0, .ref (zz 100))] := hl
  refine va_gets hx hb hZ.2.2.1 hS hown (hts (.fieldLink RJ0 38 "java/lang/String" "COMPACT_STRINGS" "Z") (by decide +kernel)) (fun _ h9 => h9) dJ0_coder_7d493_0 ?_
  refine lv_if_eq (tgt := 13) hx hb dJ0_coder_7d493_3 (by decide) (fun cx => absurd cx (show ¬ (1 : Int32) = 0 by decide)) (fun _ => ?_)
  refine lv_aload_n hx hb dJ0_coder_7d493_6 rfl (lv_at hl 0 rfl) ?_
  refine vk_getf (v := .int 0) hx hb (hZ.2.2.2.2.2.2.1.1 0 (by decide)).2.1 hS hown (hts (.fieldLink RJ0 15 "java/lang/String" "coder" "B") (by decide +kernel)) (fun _ h9 => h9) dJ0_coder_7d493_7 ?_
  refine lv_goto (tgt := 14) hx hb dJ0_coder_7d493_10 (by decide) ?_
  have hP9 := hP.sub (ws' := []) [] rfl
  have hD9 := hD.sub (ws' := []) [] (by decide) rfl
  have hK9 := hK.sub (tys' := []) [] rfl
  exact W.zret (v := 0) hx hb hr (by decide) (fun t ht hW => ⟨⟨0, (), rfl, rfl, by rw [ht]; exact hP9, va_K.moved hW.alike hK9, hD9⟩, hS.F ht⟩) hS.2.2 dJ0_coder_7d493_14
set_option maxHeartbeats 4000000 in
set_option maxRecDepth 100000 in
theorem m_J0_length_8abf5_0 (l : Launch) (dC : Nat → ClassId) (dI : Nat → Nat → Nat) (sz : Nat) (zz : Nat → Nat)    : Met l yJ0_length_8abf5 wsJ0_length_8abf5 ({ frames := 1, cells := 0, slots := 0, locals := 20 }) (va_Pc [.ref (zz 100)] (fun U => U.heap.size = sz ∧ va_P (dC, dI) vwCl [] U.heap ∧ va_K (dC, dI) vwCl [] U ∧ va_D (fun _ => True) [] ∧ SR zz (va_A [] sz) U U.heap)) (va_Qi (fun (r : Int32) (_ : Unit) => r = 249) (fun (u : Unit) t => match u with | () => va_P (dC, dI) vwCl [] t.heap ∧ va_K (dC, dI) vwCl [] t ∧ va_D (va_A [] sz) []) (va_A [] sz)) 0 0 (va_A [] sz) := by
  refine Met.ofW (cc := cJ0_length_8abf5) (maxL := 1) (ret := (some .int)) (by decide) rfl ?_
  intro p e s m args below meth c s₁ B hml hv
  obtain ⟨rfl, hsz, hP, hK, hD0, hZ⟩ := hv
  have hx := B.exec
  have hb := B.bytes
  have hr := B.returns
  have hts := atoms_spec (ws := wsJ0_length_8abf5) B.pre
  have hown : s.vm.findClass RJ0 = some m.cls := findClass_of_methodNamed B.named
  have hlocks := B.notSynchronized
  subst hsz
  have hD := hD0.self (sz := s.heap.size)
  generalize hAe : va_A [] s.heap.size = A at hD hZ ⊢
  have hA : ∀ q : Nat, s.heap.size ≤ q → A q := fun q h => by rw [← hAe]; exact Or.inr h
  have hS : va_S A s.heap s.heap [] := va_S.rf
  have hl := lv_entry ([.ref (zz 100)]) (n := 1) (Nat.le_of_ble_eq_true rfl)
  rw [lg_entry_eq]
  generalize (lg_sl ([.ref (zz 100)]) ++ List.replicate (1 - (lg_sl ([.ref (zz 100)])).length) Slot.unset).toArray = ls at hl ⊢
  have hl : lv_has ls 1 [(0, .ref (zz 100))] := hl
  refine lv_aload_n hx hb dJ0_length_8abf5_0 rfl (lv_at hl 0 rfl) ?_
  refine vk_getf (v := .ref (zz 101)) hx hb (hZ.2.2.2.2.2.2.1.1 0 (by decide)).2.2.1 hS hown (hts (.fieldLink RJ0 9 "java/lang/String" "value" "[B") (by decide +kernel)) (fun _ h9 => h9) dJ0_length_8abf5_1 ?_
  refine va_tlen (v := 249) hx hb (hZ.2.2.2.2.2.2.1.1 0 (by decide)).2.2.2 hS (by decide) dJ0_length_8abf5_4 ?_
  refine lv_aload_n hx hb dJ0_length_8abf5_5 rfl (lv_at hl 0 rfl) ?_
  have hPc := hP.sub (ws' := []) [] rfl
  have hDc := hD.sub (ws' := []) [] (by decide) rfl
  have hKc := hK.sub (tys' := []) [] rfl
  have hFc := va_free (wc := []) hD hS hA [] rfl
  refine va_calli (va_runV (As := []) (rest := [.int 249]) ⟨hx, hb, hml, hown, hts⟩ (m_J0_coder_7d493_0 l dC dI s.heap.size zz ) (cwV 0 hts gJ0_length_8abf5_J0_coder_7d493 rfl rfl rfl (by decide +kernel) ⟨Nat.le_of_ble_eq_true rfl, Nat.le_of_ble_eq_true rfl⟩) ⟨(fun a U g mk q => by obtain ⟨q0, q1, qP, qK, qD, qZ⟩ := q; exact ⟨q0, q1, qP, va_K.moved (u := U) (U := U.calling g mk a) (Vm.Alike.refl U.vm) qK, qD, SR.moved (u := U) (U := U.calling g mk a) (State.WarmedH.refl U) qZ⟩), vk_recv hZ.2.2.2.2.2.2.1 (i := 0) (by decide) hS, (fun U hU hW => ⟨rfl, by rw [hU], by rw [hU]; exact hPc, va_K.moved hW.alike hKc, hDc.weaken (fun _ _ _ _ => trivial), by rw [hU]; exact SR.moved hW (SR.narrow (SR.kept hZ hS.2.1) hFc)⟩)⟩ rfl rfl hl.1 rfl (lv_room (Nat.le_of_ble_eq_true rfl)) dJ0_length_8abf5_6 ⟨(Nat.le_of_ble_eq_true rfl), (Nat.le_of_ble_eq_true rfl)⟩) hS (fun q _ h => hFc q h) hFc (fun ri u t H1 locs ht hvm hw hB hz1 hk1 hS => ?_)
  obtain ⟨hP1, hK1, hD1⟩ := hB
  rw [ht] at hP1
  have hK1 := va_K.moved hvm.symm hK1
  obtain ⟨hP, hD⟩ := va_join (wr := []) (w1 := []) hP hD [] [] rfl rfl (by decide) (by decide) hk1 hFc hP1 hD1
  generalize H1 = H at hP hS ⊢
  have hP : va_P (dC, dI) vwCl [] H := hP
  have hD : va_D A [] := hD
  refine W.widen (k := 0) (n := 0) (Nat.le_of_ble_eq_true rfl) (Nat.le_of_ble_eq_true rfl) ?_
  subst hw
  refine lv_ishr hx hb dJ0_length_8abf5_9 ?_
  refine lv_topi (fun z48 ez48 => ?_)
  have ez48 : z48 = 249 := ez48.trans (by decide)
  subst ez48
  have hP9 := hP.sub (ws' := []) [] rfl
  have hD9 := hD.sub (ws' := []) [] (by decide) rfl
  have hK9 := hK.sub (tys' := []) [] rfl
  exact W.iret (v := 249) hx hb hr (fun t ht hW => ⟨⟨249, (), rfl, rfl, by rw [ht]; exact hP9, va_K.moved hW.alike hK9, hD9⟩, hS.F ht⟩) hS.2.2 dJ0_length_8abf5_10
set_option maxHeartbeats 4000000 in
set_option maxRecDepth 100000 in
theorem m_J0_isLatin1_aae02_0 (l : Launch) (dC : Nat → ClassId) (dI : Nat → Nat → Nat) (sz : Nat) (zz : Nat → Nat)    : Met l yJ0_isLatin1_aae02 wsJ0_isLatin1_aae02 ({ frames := 0, cells := 0, slots := 0, locals := 0 }) (va_Pc [.ref (zz 100)] (fun U => U.heap.size = sz ∧ va_P (dC, dI) vwCl [] U.heap ∧ va_K (dC, dI) vwCl [] U ∧ va_D (fun _ => True) [] ∧ SR zz (va_A [] sz) U U.heap)) (va_Qi (fun (r : Int32) (_ : Unit) => r = 1) (fun (u : Unit) t => match u with | () => va_P (dC, dI) vwCl [] t.heap ∧ va_K (dC, dI) vwCl [] t ∧ va_D (va_A [] sz) []) (va_A [] sz)) 0 0 (va_A [] sz) := by
  refine Met.ofW (cc := cJ0_isLatin1_aae02) (maxL := 1) (ret := (some .boolean)) (by decide) rfl ?_
  intro p e s m args below meth c s₁ B hml hv
  obtain ⟨rfl, hsz, hP, hK, hD0, hZ⟩ := hv
  have hx := B.exec
  have hb := B.bytes
  have hr := B.returns
  have hts := atoms_spec (ws := wsJ0_isLatin1_aae02) B.pre
  have hown : s.vm.findClass RJ0 = some m.cls := findClass_of_methodNamed B.named
  have hlocks := B.notSynchronized
  subst hsz
  have hD := hD0.self (sz := s.heap.size)
  generalize hAe : va_A [] s.heap.size = A at hD hZ ⊢
  have hA : ∀ q : Nat, s.heap.size ≤ q → A q := fun q h => by rw [← hAe]; exact Or.inr h
  have hS : va_S A s.heap s.heap [] := va_S.rf
  have hl := lv_entry ([.ref (zz 100)]) (n := 1) (Nat.le_of_ble_eq_true rfl)
  rw [lg_entry_eq]
  generalize (lg_sl ([.ref (zz 100)]) ++ List.replicate (1 - (lg_sl ([.ref (zz 100)])).length) Slot.unset).toArray = ls at hl ⊢
  have hl : lv_has ls 1 [(0, .ref (zz 100))] := hl
  refine va_gets hx hb hZ.2.2.1 hS hown (hts (.fieldLink RJ0 38 "java/lang/String" "COMPACT_STRINGS" "Z") (by decide +kernel)) (fun _ h9 => h9) dJ0_isLatin1_aae02_0 ?_
  refine lv_if_eq (tgt := 17) hx hb dJ0_isLatin1_aae02_3 (by decide) (fun cx => absurd cx (show ¬ (1 : Int32) = 0 by decide)) (fun _ => ?_)
  refine lv_aload_n hx hb dJ0_isLatin1_aae02_6 rfl (lv_at hl 0 rfl) ?_
  refine vk_getf (v := .int 0) hx hb (hZ.2.2.2.2.2.2.1.1 0 (by decide)).2.1 hS hown (hts (.fieldLink RJ0 15 "java/lang/String" "coder" "B") (by decide +kernel)) (fun _ h9 => h9) dJ0_isLatin1_aae02_7 ?_
  refine lv_if_ne (tgt := 17) hx hb dJ0_isLatin1_aae02_10 (by decide) (fun cx => absurd (show (0 : Int32) = 0 by decide) cx) (fun _ => ?_)
  refine lv_iconst (v := 1) hx hb dJ0_isLatin1_aae02_13 (by decide) ?_
  refine lv_goto (tgt := 18) hx hb dJ0_isLatin1_aae02_14 (by decide) ?_
  have hP9 := hP.sub (ws' := []) [] rfl
  have hD9 := hD.sub (ws' := []) [] (by decide) rfl
  have hK9 := hK.sub (tys' := []) [] rfl
  exact W.zret (v := 1) hx hb hr (by decide) (fun t ht hW => ⟨⟨1, (), rfl, rfl, by rw [ht]; exact hP9, va_K.moved hW.alike hK9, hD9⟩, hS.F ht⟩) hS.2.2 dJ0_isLatin1_aae02_18
set_option maxHeartbeats 4000000 in
set_option maxRecDepth 100000 in
theorem m_J3_checkIndex_8e157_0 (l : Launch) (dC : Nat → ClassId) (dI : Nat → Nat → Nat) (sz : Nat) (zz : Nat → Nat) (k52 : Nat)  (hi_k52 : k52 ≤ 248)  : Met l yJ3_checkIndex_8e157 wsJ3_checkIndex_8e157 ({ frames := 0, cells := 0, slots := 0, locals := 0 }) (va_Pc [.int (nI k52), .int 249, .ref (zz 3)] (fun U => U.heap.size = sz ∧ va_P (dC, dI) vwCl [] U.heap ∧ va_K (dC, dI) vwCl [] U ∧ va_D (fun _ => True) [] ∧ SR zz (va_A [] sz) U U.heap)) (va_Qi (fun (r : Int32) (_ : Unit) => r = nI k52) (fun (u : Unit) t => match u with | () => va_P (dC, dI) vwCl [] t.heap ∧ va_K (dC, dI) vwCl [] t ∧ va_D (va_A [] sz) []) (va_A [] sz)) 0 0 (va_A [] sz) := by
  refine Met.ofW (cc := cJ3_checkIndex_8e157) (maxL := 3) (ret := (some .int)) (by decide) rfl ?_
  intro p e s m args below meth c s₁ B hml hv
  obtain ⟨rfl, hsz, hP, hK, hD0, hZ⟩ := hv
  have hx := B.exec
  have hb := B.bytes
  have hr := B.returns
  have hts := atoms_spec (ws := wsJ3_checkIndex_8e157) B.pre
  have hown : s.vm.findClass RJ3 = some m.cls := findClass_of_methodNamed B.named
  have hlocks := B.notSynchronized
  subst hsz
  have hD := hD0.self (sz := s.heap.size)
  generalize hAe : va_A [] s.heap.size = A at hD hZ ⊢
  have hA : ∀ q : Nat, s.heap.size ≤ q → A q := fun q h => by rw [← hAe]; exact Or.inr h
  have hS : va_S A s.heap s.heap [] := va_S.rf
  have hl := lv_entry ([.int (nI k52), .int 249, .ref (zz 3)]) (n := 3) (Nat.le_of_ble_eq_true rfl)
  rw [lg_entry_eq]
  generalize (lg_sl ([.int (nI k52), .int 249, .ref (zz 3)]) ++ List.replicate (3 - (lg_sl ([.int (nI k52), .int 249, .ref (zz 3)])).length) Slot.unset).toArray = ls at hl ⊢
  have hl : lv_has ls 3 [(0, .int (nI k52)), (1, .int 249), (2, .ref (zz 3))] := hl
  refine lv_iload_n hx hb dJ3_checkIndex_8e157_0 rfl (lv_at hl 0 rfl) ?_
  refine lv_if_lt (tgt := 9) hx hb dJ3_checkIndex_8e157_1 (by decide) (fun cx => absurd cx (nI_nlt (a := k52) (b := 0) (by omega) (by omega))) (fun _ => ?_)
  refine lv_iload_n hx hb dJ3_checkIndex_8e157_4 rfl (lv_at hl 0 rfl) ?_
  refine lv_iload_n hx hb dJ3_checkIndex_8e157_5 rfl (lv_at hl 1 rfl) ?_
  refine lv_icmp_lt (tgt := 16) hx hb dJ3_checkIndex_8e157_6 (by decide) (fun _ => ?_) (fun cx => absurd (nI_lt (a := k52) (b := 249) (by omega) (by decide)) cx)
  refine lv_iload_n hx hb dJ3_checkIndex_8e157_16 rfl (lv_at hl 0 rfl) ?_
  have hP9 := hP.sub (ws' := []) [] rfl
  have hD9 := hD.sub (ws' := []) [] (by decide) rfl
  have hK9 := hK.sub (tys' := []) [] rfl
  exact W.iret (v := (nI k52)) hx hb hr (fun t ht hW => ⟨⟨(nI k52), (), rfl, rfl, by rw [ht]; exact hP9, va_K.moved hW.alike hK9, hD9⟩, hS.F ht⟩) hS.2.2 dJ3_checkIndex_8e157_17
set_option maxHeartbeats 4000000 in
set_option maxRecDepth 100000 in
theorem m_J0_checkIndex_df160_0 (l : Launch) (dC : Nat → ClassId) (dI : Nat → Nat → Nat) (sz : Nat) (zz : Nat → Nat) (k51 : Nat)  (hi_k51 : k51 ≤ 248)  : Met l yJ0_checkIndex_df160 wsJ0_checkIndex_df160 ({ frames := 1, cells := 0, slots := 0, locals := 22 }) (va_Pc [.int (nI k51), .int 249] (fun U => U.heap.size = sz ∧ va_P (dC, dI) vwCl [] U.heap ∧ va_K (dC, dI) vwCl [] U ∧ va_D (fun _ => True) [] ∧ SR zz (va_A [] sz) U U.heap)) (va_Qv (fun (_ : Unit) => True) (fun (u : Unit) t => match u with | () => va_P (dC, dI) vwCl [] t.heap ∧ va_K (dC, dI) vwCl [] t ∧ va_D (va_A [] sz) []) (va_A [] sz)) 0 0 (va_A [] sz) := by
  refine Met.ofW (cc := cJ0_checkIndex_df160) (maxL := 2) (ret := none) (by decide) rfl ?_
  intro p e s m args below meth c s₁ B hml hv
  obtain ⟨rfl, hsz, hP, hK, hD0, hZ⟩ := hv
  have hx := B.exec
  have hb := B.bytes
  have hr := B.returns
  have hts := atoms_spec (ws := wsJ0_checkIndex_df160) B.pre
  have hown : s.vm.findClass RJ0 = some m.cls := findClass_of_methodNamed B.named
  have hlocks := B.notSynchronized
  subst hsz
  have hD := hD0.self (sz := s.heap.size)
  generalize hAe : va_A [] s.heap.size = A at hD hZ ⊢
  have hA : ∀ q : Nat, s.heap.size ≤ q → A q := fun q h => by rw [← hAe]; exact Or.inr h
  have hS : va_S A s.heap s.heap [] := va_S.rf
  have hl := lv_entry ([.int (nI k51), .int 249]) (n := 2) (Nat.le_of_ble_eq_true rfl)
  rw [lg_entry_eq]
  generalize (lg_sl ([.int (nI k51), .int 249]) ++ List.replicate (2 - (lg_sl ([.int (nI k51), .int 249])).length) Slot.unset).toArray = ls at hl ⊢
  have hl : lv_has ls 2 [(0, .int (nI k51)), (1, .int 249)] := hl
  refine lv_iload_n hx hb dJ0_checkIndex_df160_0 rfl (lv_at hl 0 rfl) ?_
  refine lv_iload_n hx hb dJ0_checkIndex_df160_1 rfl (lv_at hl 1 rfl) ?_
  refine va_gets hx hb hZ.2.2.2.2.2.1 hS hown (hts (.fieldLink RJ0 1053 "jdk/internal/util/Preconditions" "SIOOBE_FORMATTER" "Ljava/util/function/BiFunction;") (by decide +kernel)) (fun _ h9 => h9) dJ0_checkIndex_df160_2 ?_
  have hPc := hP.sub (ws' := []) [] rfl
  have hDc := hD.sub (ws' := []) [] (by decide) rfl
  have hKc := hK.sub (tys' := []) [] rfl
  have hFc := va_free (wc := []) hD hS hA [] rfl
  refine va_calli (va_runS (As := [.int (nI k51), .int 249, .ref (zz 3)]) (rest := []) ⟨hx, hb, hml, hown, hts⟩ (m_J3_checkIndex_8e157_0 l dC dI s.heap.size zz k51 (by omega)) (va_cwS 3 hts gJ0_checkIndex_df160_J3_checkIndex_8e157 rfl rfl rfl (by decide +kernel) ⟨Nat.le_of_ble_eq_true rfl, Nat.le_of_ble_eq_true rfl⟩) ⟨(fun a U g mk q => by obtain ⟨q0, q1, qP, qK, qD, qZ⟩ := q; exact ⟨q0, q1, qP, va_K.moved (u := U) (U := U.calling g mk a) (Vm.Alike.refl U.vm) qK, qD, SR.moved (u := U) (U := U.calling g mk a) (State.WarmedH.refl U) qZ⟩), (fun U hU hW => ⟨rfl, by rw [hU], by rw [hU]; exact hPc, va_K.moved hW.alike hKc, hDc.weaken (fun _ _ _ _ => trivial), by rw [hU]; exact SR.moved hW (SR.narrow (SR.kept hZ hS.2.1) hFc)⟩)⟩ rfl rfl hl.1 rfl (lv_room (Nat.le_of_ble_eq_true rfl)) dJ0_checkIndex_df160_5 ⟨(Nat.le_of_ble_eq_true rfl), (Nat.le_of_ble_eq_true rfl)⟩) hS (fun q _ h => hFc q h) hFc (fun ri u t H1 locs ht hvm hw hB hz1 hk1 hS => ?_)
  obtain ⟨hP1, hK1, hD1⟩ := hB
  rw [ht] at hP1
  have hK1 := va_K.moved hvm.symm hK1
  obtain ⟨hP, hD⟩ := va_join (wr := []) (w1 := []) hP hD [] [] rfl rfl (by decide) (by decide) hk1 hFc hP1 hD1
  generalize H1 = H at hP hS ⊢
  have hP : va_P (dC, dI) vwCl [] H := hP
  have hD : va_D A [] := hD
  refine W.widen (k := 0) (n := 0) (Nat.le_of_ble_eq_true rfl) (Nat.le_of_ble_eq_true rfl) ?_
  subst hw
  refine lv_pop hx hb dJ0_checkIndex_df160_8 rfl ?_
  have hP9 := hP.sub (ws' := []) [] rfl
  have hD9 := hD.sub (ws' := []) [] (by decide) rfl
  have hK9 := hK.sub (tys' := []) [] rfl
  exact W.vret hx hb hr (fun t ht hW => ⟨⟨(), rfl, trivial, by rw [ht]; exact hP9, va_K.moved hW.alike hK9, hD9⟩, hS.F ht⟩) hS.2.2 dJ0_checkIndex_df160_9
set_option maxHeartbeats 4000000 in
set_option maxRecDepth 100000 in
theorem m_J1_charAt_3b067_0 (l : Launch) (dC : Nat → ClassId) (dI : Nat → Nat → Nat) (sz : Nat) (zz : Nat → Nat) (k50 : Nat)  (hi_k50 : k50 ≤ 248)  : Met l yJ1_charAt_3b067 wsJ1_charAt_3b067 ({ frames := 2, cells := 0, slots := 0, locals := 43 }) (va_Pc [.ref (zz 101), .int (nI k50)] (fun U => U.heap.size = sz ∧ va_P (dC, dI) vwCl [] U.heap ∧ va_K (dC, dI) vwCl [] U ∧ va_D (fun _ => True) [] ∧ SR zz (va_A [] sz) U U.heap)) (va_Qi (fun (r : Int32) (_ : Unit) => r = (((sk_b0.getD k50 0) &&& 255).toUInt32 % 65536).toInt32) (fun (u : Unit) t => match u with | () => va_P (dC, dI) vwCl [] t.heap ∧ va_K (dC, dI) vwCl [] t ∧ va_D (va_A [] sz) []) (va_A [] sz)) 0 0 (va_A [] sz) := by
  refine Met.ofW (cc := cJ1_charAt_3b067) (maxL := 2) (ret := (some .char)) (by decide) rfl ?_
  intro p e s m args below meth c s₁ B hml hv
  obtain ⟨rfl, hsz, hP, hK, hD0, hZ⟩ := hv
  have hx := B.exec
  have hb := B.bytes
  have hr := B.returns
  have hts := atoms_spec (ws := wsJ1_charAt_3b067) B.pre
  have hown : s.vm.findClass RJ1 = some m.cls := findClass_of_methodNamed B.named
  have hlocks := B.notSynchronized
  subst hsz
  have hD := hD0.self (sz := s.heap.size)
  generalize hAe : va_A [] s.heap.size = A at hD hZ ⊢
  have hA : ∀ q : Nat, s.heap.size ≤ q → A q := fun q h => by rw [← hAe]; exact Or.inr h
  have hS : va_S A s.heap s.heap [] := va_S.rf
  have hl := lv_entry ([.ref (zz 101), .int (nI k50)]) (n := 2) (Nat.le_of_ble_eq_true rfl)
  rw [lg_entry_eq]
  generalize (lg_sl ([.ref (zz 101), .int (nI k50)]) ++ List.replicate (2 - (lg_sl ([.ref (zz 101), .int (nI k50)])).length) Slot.unset).toArray = ls at hl ⊢
  have hl : lv_has ls 2 [(0, .ref (zz 101)), (1, .int (nI k50))] := hl
  refine lv_iload_n hx hb dJ1_charAt_3b067_0 rfl (lv_at hl 1 rfl) ?_
  refine lv_aload_n hx hb dJ1_charAt_3b067_1 rfl (lv_at hl 0 rfl) ?_
  refine va_tlen (v := 249) hx hb (hZ.2.2.2.2.2.2.1.1 0 (by decide)).2.2.2 hS (by decide) dJ1_charAt_3b067_2 ?_
  have hPc := hP.sub (ws' := []) [] rfl
  have hDc := hD.sub (ws' := []) [] (by decide) rfl
  have hKc := hK.sub (tys' := []) [] rfl
  have hFc := va_free (wc := []) hD hS hA [] rfl
  refine va_callv (va_runS (As := [.int (nI k50), .int 249]) (rest := []) ⟨hx, hb, hml, hown, hts⟩ (m_J0_checkIndex_df160_0 l dC dI s.heap.size zz k50 (by omega)) (va_cwS 2 hts gJ1_charAt_3b067_J0_checkIndex_df160 rfl rfl rfl (by decide +kernel) ⟨Nat.le_of_ble_eq_true rfl, Nat.le_of_ble_eq_true rfl⟩) ⟨(fun a U g mk q => by obtain ⟨q0, q1, qP, qK, qD, qZ⟩ := q; exact ⟨q0, q1, qP, va_K.moved (u := U) (U := U.calling g mk a) (Vm.Alike.refl U.vm) qK, qD, SR.moved (u := U) (U := U.calling g mk a) (State.WarmedH.refl U) qZ⟩), (fun U hU hW => ⟨rfl, by rw [hU], by rw [hU]; exact hPc, va_K.moved hW.alike hKc, hDc.weaken (fun _ _ _ _ => trivial), by rw [hU]; exact SR.moved hW (SR.narrow (SR.kept hZ hS.2.1) hFc)⟩)⟩ rfl rfl hl.1 rfl (lv_room (Nat.le_of_ble_eq_true rfl)) dJ1_charAt_3b067_3 ⟨(Nat.le_of_ble_eq_true rfl), (Nat.le_of_ble_eq_true rfl)⟩) hS (fun q _ h => hFc q h) hFc (fun u t H1 locs ht hvm hw hB hz1 hk1 hS => ?_)
  obtain ⟨hP1, hK1, hD1⟩ := hB
  rw [ht] at hP1
  have hK1 := va_K.moved hvm.symm hK1
  obtain ⟨hP, hD⟩ := va_join (wr := []) (w1 := []) hP hD [] [] rfl rfl (by decide) (by decide) hk1 hFc hP1 hD1
  generalize H1 = H at hP hS ⊢
  have hP : va_P (dC, dI) vwCl [] H := hP
  have hD : va_D A [] := hD
  refine W.widen (k := 0) (n := 0) (Nat.le_of_ble_eq_true rfl) (Nat.le_of_ble_eq_true rfl) ?_
  refine lv_aload_n hx hb dJ1_charAt_3b067_6 rfl (lv_at hl 0 rfl) ?_
  refine lv_iload_n hx hb dJ1_charAt_3b067_7 rfl (lv_at hl 1 rfl) ?_
  refine va_tb (v := .int (sk_b0.getD k50 0)) hx hb (hZ.2.2.2.2.2.2.1.1 0 (by decide)).2.2.2 hS (show vp_in (nI k50) 249 from (vp_in_nI (by omega) (by decide))) (by rw [nI_clamp (n := k50) (by omega)]; rfl) dJ1_charAt_3b067_8 ?_
  refine lv_sipush (v := 255) hx hb dJ1_charAt_3b067_9 (by decide) ?_
  refine lv_iand hx hb dJ1_charAt_3b067_12 ?_
  refine lv_i2c (v := ((((sk_b0.getD k50 0) &&& 255).toUInt32 % 65536).toInt32)) hx hb dJ1_charAt_3b067_13 rfl ?_
  have hP9 := hP.sub (ws' := []) [] rfl
  have hD9 := hD.sub (ws' := []) [] (by decide) rfl
  have hK9 := hK.sub (tys' := []) [] rfl
  exact W.zret (v := ((((sk_b0.getD k50 0) &&& 255).toUInt32 % 65536).toInt32)) hx hb hr (pk_nc _) (fun t ht hW => ⟨⟨((((sk_b0.getD k50 0) &&& 255).toUInt32 % 65536).toInt32), (), rfl, rfl, by rw [ht]; exact hP9, va_K.moved hW.alike hK9, hD9⟩, hS.F ht⟩) hS.2.2 dJ1_charAt_3b067_14
set_option maxHeartbeats 4000000 in
set_option maxRecDepth 100000 in
theorem m_J0_charAt_5068e_0 (l : Launch) (dC : Nat → ClassId) (dI : Nat → Nat → Nat) (sz : Nat) (zz : Nat → Nat) (k49 : Nat)  (hi_k49 : k49 ≤ 248)  : Met l yJ0_charAt_5068e wsJ0_charAt_5068e ({ frames := 3, cells := 0, slots := 0, locals := 64 }) (va_Pc [.ref (zz 100), .int (nI k49)] (fun U => U.heap.size = sz ∧ va_P (dC, dI) vwCl [] U.heap ∧ va_K (dC, dI) vwCl [] U ∧ va_D (fun _ => True) [] ∧ SR zz (va_A [] sz) U U.heap)) (va_Qi (fun (r : Int32) (_ : Unit) => r = (((sk_b0.getD k49 0) &&& 255).toUInt32 % 65536).toInt32) (fun (u : Unit) t => match u with | () => va_P (dC, dI) vwCl [] t.heap ∧ va_K (dC, dI) vwCl [] t ∧ va_D (va_A [] sz) []) (va_A [] sz)) 0 0 (va_A [] sz) := by
  refine Met.ofW (cc := cJ0_charAt_5068e) (maxL := 2) (ret := (some .char)) (by decide) rfl ?_
  intro p e s m args below meth c s₁ B hml hv
  obtain ⟨rfl, hsz, hP, hK, hD0, hZ⟩ := hv
  have hx := B.exec
  have hb := B.bytes
  have hr := B.returns
  have hts := atoms_spec (ws := wsJ0_charAt_5068e) B.pre
  have hown : s.vm.findClass RJ0 = some m.cls := findClass_of_methodNamed B.named
  have hlocks := B.notSynchronized
  subst hsz
  have hD := hD0.self (sz := s.heap.size)
  generalize hAe : va_A [] s.heap.size = A at hD hZ ⊢
  have hA : ∀ q : Nat, s.heap.size ≤ q → A q := fun q h => by rw [← hAe]; exact Or.inr h
  have hS : va_S A s.heap s.heap [] := va_S.rf
  have hl := lv_entry ([.ref (zz 100), .int (nI k49)]) (n := 2) (Nat.le_of_ble_eq_true rfl)
  rw [lg_entry_eq]
  generalize (lg_sl ([.ref (zz 100), .int (nI k49)]) ++ List.replicate (2 - (lg_sl ([.ref (zz 100), .int (nI k49)])).length) Slot.unset).toArray = ls at hl ⊢
  have hl : lv_has ls 2 [(0, .ref (zz 100)), (1, .int (nI k49))] := hl
  refine lv_aload_n hx hb dJ0_charAt_5068e_0 rfl (lv_at hl 0 rfl) ?_
  have hPc := hP.sub (ws' := []) [] rfl
  have hDc := hD.sub (ws' := []) [] (by decide) rfl
  have hKc := hK.sub (tys' := []) [] rfl
  have hFc := va_free (wc := []) hD hS hA [] rfl
  refine va_calli (va_runV (As := []) (rest := []) ⟨hx, hb, hml, hown, hts⟩ (m_J0_isLatin1_aae02_0 l dC dI s.heap.size zz ) (cwV 0 hts gJ0_charAt_5068e_J0_isLatin1_aae02 rfl rfl rfl (by decide +kernel) ⟨Nat.le_of_ble_eq_true rfl, Nat.le_of_ble_eq_true rfl⟩) ⟨(fun a U g mk q => by obtain ⟨q0, q1, qP, qK, qD, qZ⟩ := q; exact ⟨q0, q1, qP, va_K.moved (u := U) (U := U.calling g mk a) (Vm.Alike.refl U.vm) qK, qD, SR.moved (u := U) (U := U.calling g mk a) (State.WarmedH.refl U) qZ⟩), vk_recv hZ.2.2.2.2.2.2.1 (i := 0) (by decide) hS, (fun U hU hW => ⟨rfl, by rw [hU], by rw [hU]; exact hPc, va_K.moved hW.alike hKc, hDc.weaken (fun _ _ _ _ => trivial), by rw [hU]; exact SR.moved hW (SR.narrow (SR.kept hZ hS.2.1) hFc)⟩)⟩ rfl rfl hl.1 rfl (lv_room (Nat.le_of_ble_eq_true rfl)) dJ0_charAt_5068e_1 ⟨(Nat.le_of_ble_eq_true rfl), (Nat.le_of_ble_eq_true rfl)⟩) hS (fun q _ h => hFc q h) hFc (fun ri u t H1 locs ht hvm hw hB hz1 hk1 hS => ?_)
  obtain ⟨hP1, hK1, hD1⟩ := hB
  rw [ht] at hP1
  have hK1 := va_K.moved hvm.symm hK1
  obtain ⟨hP, hD⟩ := va_join (wr := []) (w1 := []) hP hD [] [] rfl rfl (by decide) (by decide) hk1 hFc hP1 hD1
  generalize H1 = H at hP hS ⊢
  have hP : va_P (dC, dI) vwCl [] H := hP
  have hD : va_D A [] := hD
  refine W.widen (k := 0) (n := 0) (Nat.le_of_ble_eq_true rfl) (Nat.le_of_ble_eq_true rfl) ?_
  subst hw
  refine lv_if_eq (tgt := 16) hx hb dJ0_charAt_5068e_4 (by decide) (fun cx => absurd cx (show ¬ (1 : Int32) = 0 by decide)) (fun _ => ?_)
  refine lv_aload_n hx hb dJ0_charAt_5068e_7 rfl (lv_at hl 0 rfl) ?_
  refine vk_getf (v := .ref (zz 101)) hx hb (hZ.2.2.2.2.2.2.1.1 0 (by decide)).2.2.1 hS hown (hts (.fieldLink RJ0 9 "java/lang/String" "value" "[B") (by decide +kernel)) (fun _ h9 => h9) dJ0_charAt_5068e_8 ?_
  refine lv_iload_n hx hb dJ0_charAt_5068e_11 rfl (lv_at hl 1 rfl) ?_
  have hPc := hP.sub (ws' := []) [] rfl
  have hDc := hD.sub (ws' := []) [] (by decide) rfl
  have hKc := hK.sub (tys' := []) [] rfl
  have hFc := va_free (wc := []) hD hS hA [] rfl
  refine va_calli (va_runS (As := [.ref (zz 101), .int (nI k49)]) (rest := []) ⟨hx, hb, hml, hown, hts⟩ (m_J1_charAt_3b067_0 l dC dI H.size zz k49 (by omega)) (va_cwS 2 hts gJ0_charAt_5068e_J1_charAt_3b067 rfl rfl rfl (by decide +kernel) ⟨Nat.le_of_ble_eq_true rfl, Nat.le_of_ble_eq_true rfl⟩) ⟨(fun a U g mk q => by obtain ⟨q0, q1, qP, qK, qD, qZ⟩ := q; exact ⟨q0, q1, qP, va_K.moved (u := U) (U := U.calling g mk a) (Vm.Alike.refl U.vm) qK, qD, SR.moved (u := U) (U := U.calling g mk a) (State.WarmedH.refl U) qZ⟩), (fun U hU hW => ⟨rfl, by rw [hU], by rw [hU]; exact hPc, va_K.moved hW.alike hKc, hDc.weaken (fun _ _ _ _ => trivial), by rw [hU]; exact SR.moved hW (SR.narrow (SR.kept hZ hS.2.1) hFc)⟩)⟩ rfl rfl hl.1 rfl (lv_room (Nat.le_of_ble_eq_true rfl)) dJ0_charAt_5068e_12 ⟨(Nat.le_of_ble_eq_true rfl), (Nat.le_of_ble_eq_true rfl)⟩) hS (fun q _ h => hFc q h) hFc (fun ri u t H1 locs ht hvm hw hB hz1 hk1 hS => ?_)
  obtain ⟨hP1, hK1, hD1⟩ := hB
  rw [ht] at hP1
  have hK1 := va_K.moved hvm.symm hK1
  obtain ⟨hP, hD⟩ := va_join (wr := []) (w1 := []) hP hD [] [] rfl rfl (by decide) (by decide) hk1 hFc hP1 hD1
  generalize H1 = H at hP hS ⊢
  have hP : va_P (dC, dI) vwCl [] H := hP
  have hD : va_D A [] := hD
  refine W.widen (k := 0) (n := 0) (Nat.le_of_ble_eq_true rfl) (Nat.le_of_ble_eq_true rfl) ?_
  subst hw
  have hP9 := hP.sub (ws' := []) [] rfl
  have hD9 := hD.sub (ws' := []) [] (by decide) rfl
  have hK9 := hK.sub (tys' := []) [] rfl
  exact W.zret (v := ((((sk_b0.getD k49 0) &&& 255).toUInt32 % 65536).toInt32)) hx hb hr (pk_nc _) (fun t ht hW => ⟨⟨((((sk_b0.getD k49 0) &&& 255).toUInt32 % 65536).toInt32), (), rfl, rfl, by rw [ht]; exact hP9, va_K.moved hW.alike hK9, hD9⟩, hS.F ht⟩) hS.2.2 dJ0_charAt_5068e_15
