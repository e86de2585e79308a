set_option maxHeartbeats 4000000 in
set_option maxRecDepth 100000 in
theorem m_X11_init_0 (l : Launch) (dC : Nat → ClassId) (dI : Nat → Nat → Nat) (sz : Nat) (h2 : Nat) (v3 : Value) (v4 : Value) (v5 : Value) (v6 : Value) (v7 : Value) (v8 : Value) (v9 : Value) (v10 : Value) (v11 : Value) (v12 : Value)   : Met l yX11_init wsX11_init ({ frames := 1, cells := 0, slots := 0, locals := 12 }) (va_Pc [.ref h2, .int 1] (fun U => U.heap.size = sz ∧ va_P (dC, dI) vwCl [(h2, .inr (13, [.int 0, v3, v4, v5, v6, v7, v8, v9, v10, v11, v12]))] U.heap ∧ va_K (dC, dI) vwCl [] U ∧ va_D (fun _ => True) [(h2, .inr (13, [.int 0, v3, v4, v5, v6, v7, v8, v9, v10, v11, v12]))])) (va_Qv (fun (_ : Unit) => True) (fun (u : Unit) t => match u with | () => va_P (dC, dI) vwCl [(h2, .inr (13, [.int 1, v3, v4, v5, v6, v7, v8, v9, v10, v11, v12]))] t.heap ∧ va_K (dC, dI) vwCl [] t ∧ va_D (va_A [(h2, .inr (13, [.int 0, v3, v4, v5, v6, v7, v8, v9, v10, v11, v12]))] sz) [(h2, .inr (13, [.int 1, v3, v4, v5, v6, v7, v8, v9, v10, v11, v12]))]) (va_A [(h2, .inr (13, [.int 0, v3, v4, v5, v6, v7, v8, v9, v10, v11, v12]))] sz)) 0 0 (va_A [(h2, .inr (13, [.int 0, v3, v4, v5, v6, v7, v8, v9, v10, v11, v12]))] sz) := by
  refine Met.ofW (cc := cX11_init) (maxL := 2) (ret := none) (by decide) rfl ?_
  intro p e s m args below meth c s₁ B hml hv
  obtain ⟨rfl, hsz, hP, hK, hD0⟩ := hv
  have hx := B.exec
  have hb := B.bytes
  have hr := B.returns
  have hts := atoms_spec (ws := wsX11_init) B.pre
  have hown : s.vm.findClass RX11 = some m.cls := findClass_of_methodNamed B.named
  have hlocks := B.notSynchronized
  have hin : meth.name = "<init>" := (name_of_methodNamed B.named B.method).1
  have hinX11 : ∀ w ∈ wsX110, w ∈ wsX11_init := fun w h => List.mem_cons_of_mem _ (List.mem_append_right _ (h))
  subst hsz
  have hD := hD0.self (sz := s.heap.size)
  generalize hAe : va_A [(h2, .inr (13, [.int 0, v3, v4, v5, v6, v7, v8, v9, v10, v11, v12]))] s.heap.size = A at hD ⊢
  have hA : ∀ q : Nat, s.heap.size ≤ q → A q := fun q h => by rw [← hAe]; exact Or.inr h
  have hS : va_S A s.heap s.heap [] := va_S.rf
  have hl := lv_entry ([.ref h2, .int 1]) (n := 2) (Nat.le_of_ble_eq_true rfl)
  rw [lg_entry_eq]
  generalize (lg_sl ([.ref h2, .int 1]) ++ List.replicate (2 - (lg_sl ([.ref h2, .int 1])).length) Slot.unset).toArray = ls at hl ⊢
  have hl : lv_has ls 2 [(0, .ref h2), (1, .int 1)] := hl
  refine lv_aload_n hx hb dX11_init_0 rfl (lv_at hl 0 rfl) ?_
  refine W.objInit hx hb hown (hts (.methodLink RX11 1 objectInit) (by decide +kernel)) (hts (.instanceMethod objectInit) (by decide +kernel)) (hts (.code objectInit ⟨#[0xb1]⟩ 1 none) (by decide +kernel)) rfl (by rw [hml]; exact hl.1) rfl dX11_init_1 (Nat.le_of_ble_eq_true rfl) (Nat.le_of_ble_eq_true rfl) ?_
  refine W.eq (g2 := F0 m 4 ls []) rfl ?_
  refine lv_aload_n hx hb dX11_init_4 rfl (lv_at hl 0 rfl) ?_
  refine lv_iload_n hx hb dX11_init_5 rfl (lv_at hl 1 rfl) ?_
  refine va_putF (D := (dC, dI)) (ci := 13) (v := .int 1) (ty := .int) (C := RX11) (T := TX11) (N := 11) hx hb hts hinX11 tyX11 tyX11_ok nmX11 hown hK hP hD hS 0 rfl rfl 0 (by decide) (hts (.fieldLink RX11 7 "GoalHouse$Val" "kind" "I") (by decide +kernel)) (fun _ h9 => h9) rfl hin rfl (by decide +kernel) rfl rfl (Nat.le_of_ble_eq_true rfl) dX11_init_6 (fun H locs hP hD hS => ?_)
  have hP : va_P (dC, dI) vwCl [(h2, .inr (13, [.int 1, v3, v4, v5, v6, v7, v8, v9, v10, v11, v12]))] H := hP
  have hD : va_D A [(h2, .inr (13, [.int 1, v3, v4, v5, v6, v7, v8, v9, v10, v11, v12]))] := hD
  have hP9 := hP.sub (ws' := [(h2, .inr (13, [.int 1, v3, v4, v5, v6, v7, v8, v9, v10, v11, v12]))]) [0] rfl
  have hD9 := hD.sub (ws' := [(h2, .inr (13, [.int 1, v3, v4, v5, v6, v7, v8, v9, v10, v11, v12]))]) [0] (by decide) rfl
  have hK9 := hK.sub (tys' := []) [] rfl
  exact W.vret hx hb hr (fun t ht hW => ⟨⟨(), rfl, trivial, by rw [ht]; exact hP9, va_K.moved hW.alike hK9, hD9⟩, hS.F ht⟩) hS.2.2 dX11_init_9
set_option maxHeartbeats 4000000 in
set_option maxRecDepth 100000 in
theorem m_X11_whole_0 (l : Launch) (dC : Nat → ClassId) (dI : Nat → Nat → Nat) (sz : Nat) (x13 : Int64)   : Met l yX11_whole wsX11_whole ({ frames := 2, cells := 1, slots := 11, locals := 33 }) (va_Pc [.long x13] (fun U => U.heap.size = sz ∧ va_P (dC, dI) vwCl [] U.heap ∧ va_K (dC, dI) vwCl [] U ∧ va_D (fun _ => True) [])) (va_Qr (fun (_ : Unit) => True) (fun (u : Unit) (q14 : Nat) t => match u with | () => va_P (dC, dI) vwCl [(q14, .inr (13, [.int 1, .long x13, .null, .null, .int 0, .int 0, .null, .null, .null, .null, .null]))] t.heap ∧ va_K (dC, dI) vwCl [] t ∧ va_D (va_A [] sz) [(q14, .inr (13, [.int 1, .long x13, .null, .null, .int 0, .int 0, .null, .null, .null, .null, .null]))]) (va_A [] sz)) 1 11 (va_A [] sz) := by
  refine Met.ofW (cc := cX11_whole) (maxL := 3) (ret := (some (.object "GoalHouse$Val"))) (by decide) rfl ?_
  intro p e s m args below meth c s₁ B hml hv
  obtain ⟨rfl, hsz, hP, hK, hD0⟩ := hv
  have hx := B.exec
  have hb := B.bytes
  have hr := B.returns
  have hts := atoms_spec (ws := wsX11_whole) B.pre
  have hown : s.vm.findClass RX11 = some m.cls := findClass_of_methodNamed B.named
  have hlocks := B.notSynchronized
  have hinX11 : ∀ w ∈ wsX110, w ∈ wsX11_whole := fun w h => List.mem_cons_of_mem _ (List.mem_append_right _ (h))
  subst hsz
  have hD := hD0.self (sz := s.heap.size)
  generalize hAe : va_A [] s.heap.size = A at hD ⊢
  have hA : ∀ q : Nat, s.heap.size ≤ q → A q := fun q h => by rw [← hAe]; exact Or.inr h
  have hS : va_S A s.heap s.heap [] := va_S.rf
  have hl := lv_entry ([.long x13]) (n := 3) (Nat.le_of_ble_eq_true rfl)
  rw [lg_entry_eq]
  generalize (lg_sl ([.long x13]) ++ List.replicate (3 - (lg_sl ([.long x13])).length) Slot.unset).toArray = ls at hl ⊢
  have hl : lv_has ls 3 [(0, .long x13)] := hl
  refine va_new (ci := 13) (fs := [.int 0, .long 0, .null, .null, .int 0, .int 0, .null, .null, .null, .null, .null]) (C := RX11) (T := TX11) (N := 11) hx hb hts hinX11 tyX11 tyX11_ok hown (hts (.classLink RX11 8 RX11) (by decide +kernel)) (hts (.instantiable RX11 11) (by decide +kernel)) (hts (.initialized RX11) (by decide +kernel)) hK hP hD hS hA rfl (fun j hj => by rcases (show j = 0 ∨ j = 1 ∨ j = 2 ∨ j = 3 ∨ j = 4 ∨ j = 5 ∨ j = 6 ∨ j = 7 ∨ j = 8 ∨ j = 9 ∨ j = 10 by omega) with rfl | rfl | rfl | rfl | rfl | rfl | rfl | rfl | rfl | rfl | rfl <;> rfl) (Nat.le_of_ble_eq_true rfl) (Nat.le_of_ble_eq_true rfl) dX11_whole_0 (fun q14 H hP hD hS => ?_)
  have hP : va_P (dC, dI) vwCl [(q14, .inr (13, [.int 0, .long 0, .null, .null, .int 0, .int 0, .null, .null, .null, .null, .null]))] H := hP
  have hD : va_D A [(q14, .inr (13, [.int 0, .long 0, .null, .null, .int 0, .int 0, .null, .null, .null, .null, .null]))] := hD
  refine W.widen (k := 1) (n := 11) (Nat.le_of_ble_eq_true rfl) (Nat.le_of_ble_eq_true rfl) ?_
  refine lv_dup hx hb dX11_whole_3 rfl ?_
  refine lv_iconst (v := 1) hx hb dX11_whole_4 (by decide) ?_
  have hPc := hP.sub (ws' := [(q14, .inr (13, [.int 0, .long 0, .null, .null, .int 0, .int 0, .null, .null, .null, .null, .null]))]) [0] rfl
  have hDc := hD.sub (ws' := [(q14, .inr (13, [.int 0, .long 0, .null, .null, .int 0, .int 0, .null, .null, .null, .null, .null]))]) [0] (by decide) rfl
  have hKc := hK.sub (tys' := []) [] rfl
  have hFc := va_free (wc := [(q14, .inr (13, [.int 0, .long 0, .null, .null, .int 0, .int 0, .null, .null, .null, .null, .null]))]) hD hS hA [0] rfl
  refine va_callv (va_runI (As := [.int 1]) (rest := [.ref q14]) ⟨hx, hb, hml, hown, hts⟩ (m_X11_init_0 l dC dI H.size q14 (.long 0) .null .null (.int 0) (.int 0) .null .null .null .null .null) (cwI 1 hts gX11_whole_X11_init rfl rfl rfl (hts (.initialized RX11) (by decide +kernel)) (hts (.methodLink RX11 13 yX11_init) (by decide +kernel)) (hts (.instanceMethod yX11_init) (by decide +kernel)) rfl (by decide +kernel) ⟨Nat.le_of_ble_eq_true rfl, Nat.le_of_ble_eq_true rfl⟩) ⟨(fun a U g mk q => by obtain ⟨q0, q1, qP, qK, qD⟩ := q; exact ⟨q0, q1, qP, va_K.moved (u := U) (U := U.calling g mk a) (Vm.Alike.refl U.vm) qK, qD⟩), (fun U hU hW => ⟨rfl, by rw [hU], by rw [hU]; exact hPc, va_K.moved hW.alike hKc, hDc.weaken (fun _ _ _ _ => trivial)⟩)⟩ rfl rfl hl.1 rfl (lv_room (Nat.le_of_ble_eq_true rfl)) dX11_whole_5 ⟨Nat.le_of_ble_eq_true rfl, Nat.le_of_ble_eq_true rfl⟩) hS (fun q _ h => hFc q h) hFc (fun u t H1 locs ht hvm hw hB hz1 hk1 hS => ?_)
  obtain ⟨hP1, hK1, hD1⟩ := hB
  rw [ht] at hP1
  have hK1 := va_K.moved hvm.symm hK1
  obtain ⟨hP, hD⟩ := va_join (wr := []) (w1 := [(q14, .inr (13, [.int 1, .long 0, .null, .null, .int 0, .int 0, .null, .null, .null, .null, .null]))]) hP hD [0] [] rfl rfl (by decide) (by decide) hk1 hFc hP1 hD1
  generalize H1 = H at hP hS ⊢
  have hP : va_P (dC, dI) vwCl [(q14, .inr (13, [.int 1, .long 0, .null, .null, .int 0, .int 0, .null, .null, .null, .null, .null]))] H := hP
  have hD : va_D A [(q14, .inr (13, [.int 1, .long 0, .null, .null, .int 0, .int 0, .null, .null, .null, .null, .null]))] := hD
  refine W.widen (k := 1) (n := 11) (Nat.le_of_ble_eq_true rfl) (Nat.le_of_ble_eq_true rfl) ?_
  refine lv_astore_n (lv' := [(2, .ref q14), (0, .long x13)]) hx hb dX11_whole_8 rfl hl (by decide) rfl (fun ls hl => ?_)
  refine lv_aload_n hx hb dX11_whole_9 rfl (lv_at hl 0 rfl) ?_
  refine lv_lload_n hx hb dX11_whole_10 rfl (lv_at hl 1 rfl) ?_
  refine va_put (D := (dC, dI)) (ci := 13) (v := .long x13) (ty := .long) (C := RX11) (T := TX11) (N := 11) hx hb hts hinX11 tyX11 tyX11_ok nmX11 hown hK hP hD hS 0 rfl rfl 1 (by decide) (hts (.fieldLink RX11 16 "GoalHouse$Val" "num" "J") (by decide +kernel)) (fun _ h9 => h9) rfl (by decide +kernel) rfl rfl (Nat.le_of_ble_eq_true rfl) dX11_whole_11 (fun H locs hP hD hS => ?_)
  have hP : va_P (dC, dI) vwCl [(q14, .inr (13, [.int 1, .long x13, .null, .null, .int 0, .int 0, .null, .null, .null, .null, .null]))] H := hP
  have hD : va_D A [(q14, .inr (13, [.int 1, .long x13, .null, .null, .int 0, .int 0, .null, .null, .null, .null, .null]))] := hD
  refine lv_aload_n hx hb dX11_whole_14 rfl (lv_at hl 0 rfl) ?_
  have hP9 := hP.sub (ws' := [(q14, .inr (13, [.int 1, .long x13, .null, .null, .int 0, .int 0, .null, .null, .null, .null, .null]))]) [0] rfl
  have hD9 := hD.sub (ws' := [(q14, .inr (13, [.int 1, .long x13, .null, .null, .int 0, .int 0, .null, .null, .null, .null, .null]))]) [0] (by decide) rfl
  have hK9 := hK.sub (tys' := []) [] rfl
  exact W.aret (v := .ref q14) hx hb hr (Or.inl ⟨_, rfl⟩) (Or.inr ⟨_, rfl⟩) (fun t ht hW => ⟨⟨(), q14, rfl, trivial, by rw [ht]; exact hP9, va_K.moved hW.alike hK9, hD9⟩, hS.F ht⟩) hS.2.2 dX11_whole_15
set_option maxHeartbeats 4000000 in
set_option maxRecDepth 100000 in
theorem m_X11_init_1 (l : Launch) (dC : Nat → ClassId) (dI : Nat → Nat → Nat) (sz : Nat) (h27 : Nat) (v28 : Value) (v29 : Value) (v30 : Value) (v31 : Value) (v32 : Value) (v33 : Value) (v34 : Value) (v35 : Value) (v36 : Value) (v37 : Value)   : Met l yX11_init wsX11_init ({ frames := 1, cells := 0, slots := 0, locals := 12 }) (va_Pc [.ref h27, .int 10] (fun U => U.heap.size = sz ∧ va_P (dC, dI) vwCl [(h27, .inr (13, [.int 0, v28, v29, v30, v31, v32, v33, v34, v35, v36, v37]))] U.heap ∧ va_K (dC, dI) vwCl [] U ∧ va_D (fun _ => True) [(h27, .inr (13, [.int 0, v28, v29, v30, v31, v32, v33, v34, v35, v36, v37]))])) (va_Qv (fun (_ : Unit) => True) (fun (u : Unit) t => match u with | () => va_P (dC, dI) vwCl [(h27, .inr (13, [.int 10, v28, v29, v30, v31, v32, v33, v34, v35, v36, v37]))] t.heap ∧ va_K (dC, dI) vwCl [] t ∧ va_D (va_A [(h27, .inr (13, [.int 0, v28, v29, v30, v31, v32, v33, v34, v35, v36, v37]))] sz) [(h27, .inr (13, [.int 10, v28, v29, v30, v31, v32, v33, v34, v35, v36, v37]))]) (va_A [(h27, .inr (13, [.int 0, v28, v29, v30, v31, v32, v33, v34, v35, v36, v37]))] sz)) 0 0 (va_A [(h27, .inr (13, [.int 0, v28, v29, v30, v31, v32, v33, v34, v35, v36, v37]))] sz) := by
  refine Met.ofW (cc := cX11_init) (maxL := 2) (ret := none) (by decide) rfl ?_
  intro p e s m args below meth c s₁ B hml hv
  obtain ⟨rfl, hsz, hP, hK, hD0⟩ := hv
  have hx := B.exec
  have hb := B.bytes
  have hr := B.returns
  have hts := atoms_spec (ws := wsX11_init) B.pre
  have hown : s.vm.findClass RX11 = some m.cls := findClass_of_methodNamed B.named
  have hlocks := B.notSynchronized
  have hin : meth.name = "<init>" := (name_of_methodNamed B.named B.method).1
  have hinX11 : ∀ w ∈ wsX110, w ∈ wsX11_init := fun w h => List.mem_cons_of_mem _ (List.mem_append_right _ (h))
  subst hsz
  have hD := hD0.self (sz := s.heap.size)
  generalize hAe : va_A [(h27, .inr (13, [.int 0, v28, v29, v30, v31, v32, v33, v34, v35, v36, v37]))] s.heap.size = A at hD ⊢
  have hA : ∀ q : Nat, s.heap.size ≤ q → A q := fun q h => by rw [← hAe]; exact Or.inr h
  have hS : va_S A s.heap s.heap [] := va_S.rf
  have hl := lv_entry ([.ref h27, .int 10]) (n := 2) (Nat.le_of_ble_eq_true rfl)
  rw [lg_entry_eq]
  generalize (lg_sl ([.ref h27, .int 10]) ++ List.replicate (2 - (lg_sl ([.ref h27, .int 10])).length) Slot.unset).toArray = ls at hl ⊢
  have hl : lv_has ls 2 [(0, .ref h27), (1, .int 10)] := hl
  refine lv_aload_n hx hb dX11_init_0 rfl (lv_at hl 0 rfl) ?_
  refine W.objInit hx hb hown (hts (.methodLink RX11 1 objectInit) (by decide +kernel)) (hts (.instanceMethod objectInit) (by decide +kernel)) (hts (.code objectInit ⟨#[0xb1]⟩ 1 none) (by decide +kernel)) rfl (by rw [hml]; exact hl.1) rfl dX11_init_1 (Nat.le_of_ble_eq_true rfl) (Nat.le_of_ble_eq_true rfl) ?_
  refine W.eq (g2 := F0 m 4 ls []) rfl ?_
  refine lv_aload_n hx hb dX11_init_4 rfl (lv_at hl 0 rfl) ?_
  refine lv_iload_n hx hb dX11_init_5 rfl (lv_at hl 1 rfl) ?_
  refine va_putF (D := (dC, dI)) (ci := 13) (v := .int 10) (ty := .int) (C := RX11) (T := TX11) (N := 11) hx hb hts hinX11 tyX11 tyX11_ok nmX11 hown hK hP hD hS 0 rfl rfl 0 (by decide) (hts (.fieldLink RX11 7 "GoalHouse$Val" "kind" "I") (by decide +kernel)) (fun _ h9 => h9) rfl hin rfl (by decide +kernel) rfl rfl (Nat.le_of_ble_eq_true rfl) dX11_init_6 (fun H locs hP hD hS => ?_)
  have hP : va_P (dC, dI) vwCl [(h27, .inr (13, [.int 10, v28, v29, v30, v31, v32, v33, v34, v35, v36, v37]))] H := hP
  have hD : va_D A [(h27, .inr (13, [.int 10, v28, v29, v30, v31, v32, v33, v34, v35, v36, v37]))] := hD
  have hP9 := hP.sub (ws' := [(h27, .inr (13, [.int 10, v28, v29, v30, v31, v32, v33, v34, v35, v36, v37]))]) [0] rfl
  have hD9 := hD.sub (ws' := [(h27, .inr (13, [.int 10, v28, v29, v30, v31, v32, v33, v34, v35, v36, v37]))]) [0] (by decide) rfl
  have hK9 := hK.sub (tys' := []) [] rfl
  exact W.vret hx hb hr (fun t ht hW => ⟨⟨(), rfl, trivial, by rw [ht]; exact hP9, va_K.moved hW.alike hK9, hD9⟩, hS.F ht⟩) hS.2.2 dX11_init_9
set_option maxHeartbeats 4000000 in
set_option maxRecDepth 100000 in
theorem m_X11_cell_0 (l : Launch) (dC : Nat → ClassId) (dI : Nat → Nat → Nat) (sz : Nat) (h38 : Nat) (v39 : Value) (v40 : Value) (v41 : Value) (v42 : Value) (v43 : Value) (v44 : Value) (v45 : Value) (v46 : Value) (v47 : Value) (v48 : Value) (v49 : Value)   : Met l yX11_cell wsX11_cell ({ frames := 2, cells := 1, slots := 11, locals := 33 }) (va_Pc [.ref h38] (fun U => U.heap.size = sz ∧ va_P (dC, dI) vwCl [(h38, .inr (13, [v39, v40, v41, v42, v43, v44, v45, v46, v47, v48, v49]))] U.heap ∧ va_K (dC, dI) vwCl [] U ∧ va_D (fun _ => True) [(h38, .inr (13, [v39, v40, v41, v42, v43, v44, v45, v46, v47, v48, v49]))])) (va_Qr (fun (_ : Unit) => True) (fun (u : Unit) (q50 : Nat) t => match u with | () => va_P (dC, dI) vwCl [(h38, .inr (13, [v39, v40, v41, v42, v43, v44, v45, v46, v47, v48, v49])), (q50, .inr (13, [.int 10, .long 0, .null, .null, .int 0, .int 0, .null, .null, .ref h38, .null, .null]))] t.heap ∧ va_K (dC, dI) vwCl [] t ∧ va_D (va_A [(h38, .inr (13, [v39, v40, v41, v42, v43, v44, v45, v46, v47, v48, v49]))] sz) [(h38, .inr (13, [v39, v40, v41, v42, v43, v44, v45, v46, v47, v48, v49])), (q50, .inr (13, [.int 10, .long 0, .null, .null, .int 0, .int 0, .null, .null, .ref h38, .null, .null]))]) (va_A [(h38, .inr (13, [v39, v40, v41, v42, v43, v44, v45, v46, v47, v48, v49]))] sz)) 1 11 (va_A [(h38, .inr (13, [v39, v40, v41, v42, v43, v44, v45, v46, v47, v48, v49]))] sz) := by
  refine Met.ofW (cc := cX11_cell) (maxL := 2) (ret := (some (.object "GoalHouse$Val"))) (by decide) rfl ?_
  intro p e s m args below meth c s₁ B hml hv
  obtain ⟨rfl, hsz, hP, hK, hD0⟩ := hv
  have hx := B.exec
  have hb := B.bytes
  have hr := B.returns
  have hts := atoms_spec (ws := wsX11_cell) B.pre
  have hown : s.vm.findClass RX11 = some m.cls := findClass_of_methodNamed B.named
  have hlocks := B.notSynchronized
  have hinX11 : ∀ w ∈ wsX110, w ∈ wsX11_cell := fun w h => List.mem_cons_of_mem _ (List.mem_append_right _ (h))
  subst hsz
  have hD := hD0.self (sz := s.heap.size)
  generalize hAe : va_A [(h38, .inr (13, [v39, v40, v41, v42, v43, v44, v45, v46, v47, v48, v49]))] s.heap.size = A at hD ⊢
  have hA : ∀ q : Nat, s.heap.size ≤ q → A q := fun q h => by rw [← hAe]; exact Or.inr h
  have hS : va_S A s.heap s.heap [] := va_S.rf
  have hl := lv_entry ([.ref h38]) (n := 2) (Nat.le_of_ble_eq_true rfl)
  rw [lg_entry_eq]
  generalize (lg_sl ([.ref h38]) ++ List.replicate (2 - (lg_sl ([.ref h38])).length) Slot.unset).toArray = ls at hl ⊢
  have hl : lv_has ls 2 [(0, .ref h38)] := hl
  refine va_new (ci := 13) (fs := [.int 0, .long 0, .null, .null, .int 0, .int 0, .null, .null, .null, .null, .null]) (C := RX11) (T := TX11) (N := 11) hx hb hts hinX11 tyX11 tyX11_ok hown (hts (.classLink RX11 8 RX11) (by decide +kernel)) (hts (.instantiable RX11 11) (by decide +kernel)) (hts (.initialized RX11) (by decide +kernel)) hK hP hD hS hA rfl (fun j hj => by rcases (show j = 0 ∨ j = 1 ∨ j = 2 ∨ j = 3 ∨ j = 4 ∨ j = 5 ∨ j = 6 ∨ j = 7 ∨ j = 8 ∨ j = 9 ∨ j = 10 by omega) with rfl | rfl | rfl | rfl | rfl | rfl | rfl | rfl | rfl | rfl | rfl <;> rfl) (Nat.le_of_ble_eq_true rfl) (Nat.le_of_ble_eq_true rfl) dX11_cell_0 (fun q50 H hP hD hS => ?_)
  have hP : va_P (dC, dI) vwCl [(h38, .inr (13, [v39, v40, v41, v42, v43, v44, v45, v46, v47, v48, v49])), (q50, .inr (13, [.int 0, .long 0, .null, .null, .int 0, .int 0, .null, .null, .null, .null, .null]))] H := hP
  have hD : va_D A [(h38, .inr (13, [v39, v40, v41, v42, v43, v44, v45, v46, v47, v48, v49])), (q50, .inr (13, [.int 0, .long 0, .null, .null, .int 0, .int 0, .null, .null, .null, .null, .null]))] := hD
  refine W.widen (k := 1) (n := 11) (Nat.le_of_ble_eq_true rfl) (Nat.le_of_ble_eq_true rfl) ?_
  refine lv_dup hx hb dX11_cell_3 rfl ?_
  refine lv_bipush (v := 10) hx hb dX11_cell_4 (by decide) ?_
  have hPc := hP.sub (ws' := [(q50, .inr (13, [.int 0, .long 0, .null, .null, .int 0, .int 0, .null, .null, .null, .null, .null]))]) [1] rfl
  have hDc := hD.sub (ws' := [(q50, .inr (13, [.int 0, .long 0, .null, .null, .int 0, .int 0, .null, .null, .null, .null, .null]))]) [1] (by decide) rfl
  have hKc := hK.sub (tys' := []) [] rfl
  have hFc := va_free (wc := [(q50, .inr (13, [.int 0, .long 0, .null, .null, .int 0, .int 0, .null, .null, .null, .null, .null]))]) hD hS hA [1] rfl
  refine va_callv (va_runI (As := [.int 10]) (rest := [.ref q50]) ⟨hx, hb, hml, hown, hts⟩ (m_X11_init_1 l dC dI H.size q50 (.long 0) .null .null (.int 0) (.int 0) .null .null .null .null .null) (cwI 1 hts gX11_cell_X11_init rfl rfl rfl (hts (.initialized RX11) (by decide +kernel)) (hts (.methodLink RX11 13 yX11_init) (by decide +kernel)) (hts (.instanceMethod yX11_init) (by decide +kernel)) rfl (by decide +kernel) ⟨Nat.le_of_ble_eq_true rfl, Nat.le_of_ble_eq_true rfl⟩) ⟨(fun a U g mk q => by obtain ⟨q0, q1, qP, qK, qD⟩ := q; exact ⟨q0, q1, qP, va_K.moved (u := U) (U := U.calling g mk a) (Vm.Alike.refl U.vm) qK, qD⟩), (fun U hU hW => ⟨rfl, by rw [hU], by rw [hU]; exact hPc, va_K.moved hW.alike hKc, hDc.weaken (fun _ _ _ _ => trivial)⟩)⟩ rfl rfl hl.1 rfl (lv_room (Nat.le_of_ble_eq_true rfl)) dX11_cell_6 ⟨Nat.le_of_ble_eq_true rfl, Nat.le_of_ble_eq_true rfl⟩) hS (fun q _ h => hFc q h) hFc (fun u t H1 locs ht hvm hw hB hz1 hk1 hS => ?_)
  obtain ⟨hP1, hK1, hD1⟩ := hB
  rw [ht] at hP1
  have hK1 := va_K.moved hvm.symm hK1
  obtain ⟨hP, hD⟩ := va_join (wr := [(h38, .inr (13, [v39, v40, v41, v42, v43, v44, v45, v46, v47, v48, v49]))]) (w1 := [(q50, .inr (13, [.int 10, .long 0, .null, .null, .int 0, .int 0, .null, .null, .null, .null, .null]))]) hP hD [1] [0] rfl rfl (by decide) (by decide) hk1 hFc hP1 hD1
  generalize H1 = H at hP hS ⊢
  have hP : va_P (dC, dI) vwCl [(h38, .inr (13, [v39, v40, v41, v42, v43, v44, v45, v46, v47, v48, v49])), (q50, .inr (13, [.int 10, .long 0, .null, .null, .int 0, .int 0, .null, .null, .null, .null, .null]))] H := hP
  have hD : va_D A [(h38, .inr (13, [v39, v40, v41, v42, v43, v44, v45, v46, v47, v48, v49])), (q50, .inr (13, [.int 10, .long 0, .null, .null, .int 0, .int 0, .null, .null, .null, .null, .null]))] := hD
  refine W.widen (k := 1) (n := 11) (Nat.le_of_ble_eq_true rfl) (Nat.le_of_ble_eq_true rfl) ?_
  refine lv_astore_n (lv' := [(1, .ref q50), (0, .ref h38)]) hx hb dX11_cell_9 rfl hl (by decide) rfl (fun ls hl => ?_)
  refine lv_aload_n hx hb dX11_cell_10 rfl (lv_at hl 0 rfl) ?_
  refine lv_aload_n hx hb dX11_cell_11 rfl (lv_at hl 1 rfl) ?_
  refine va_put (D := (dC, dI)) (ci := 13) (v := .ref h38) (ty := (.object "GoalHouse$Val")) (C := RX11) (T := TX11) (N := 11) hx hb hts hinX11 tyX11 tyX11_ok nmX11 hown hK hP hD hS 1 rfl rfl 8 (by decide) (hts (.fieldLink RX11 30 "GoalHouse$Val" "in" "LGoalHouse$Val;") (by decide +kernel)) (fun _ h9 => h9) rfl (by decide +kernel) rfl rfl (Nat.le_of_ble_eq_true rfl) dX11_cell_12 (fun H locs hP hD hS => ?_)
  have hP : va_P (dC, dI) vwCl [(h38, .inr (13, [v39, v40, v41, v42, v43, v44, v45, v46, v47, v48, v49])), (q50, .inr (13, [.int 10, .long 0, .null, .null, .int 0, .int 0, .null, .null, .ref h38, .null, .null]))] H := hP
  have hD : va_D A [(h38, .inr (13, [v39, v40, v41, v42, v43, v44, v45, v46, v47, v48, v49])), (q50, .inr (13, [.int 10, .long 0, .null, .null, .int 0, .int 0, .null, .null, .ref h38, .null, .null]))] := hD
  refine lv_aload_n hx hb dX11_cell_15 rfl (lv_at hl 0 rfl) ?_
  have hP9 := hP.sub (ws' := [(h38, .inr (13, [v39, v40, v41, v42, v43, v44, v45, v46, v47, v48, v49])), (q50, .inr (13, [.int 10, .long 0, .null, .null, .int 0, .int 0, .null, .null, .ref h38, .null, .null]))]) [0, 1] rfl
  have hD9 := hD.sub (ws' := [(h38, .inr (13, [v39, v40, v41, v42, v43, v44, v45, v46, v47, v48, v49])), (q50, .inr (13, [.int 10, .long 0, .null, .null, .int 0, .int 0, .null, .null, .ref h38, .null, .null]))]) [0, 1] (by decide) rfl
  have hK9 := hK.sub (tys' := []) [] rfl
  exact W.aret (v := .ref q50) hx hb hr (Or.inl ⟨_, rfl⟩) (Or.inr ⟨_, rfl⟩) (fun t ht hW => ⟨⟨(), q50, rfl, trivial, by rw [ht]; exact hP9, va_K.moved hW.alike hK9, hD9⟩, hS.F ht⟩) hS.2.2 dX11_cell_16
set_option maxHeartbeats 4000000 in
set_option maxRecDepth 100000 in
theorem m_X11_init_2 (l : Launch) (dC : Nat → ClassId) (dI : Nat → Nat → Nat) (sz : Nat) (h63 : Nat) (v64 : Value) (v65 : Value) (v66 : Value) (v67 : Value) (v68 : Value) (v69 : Value) (v70 : Value) (v71 : Value) (v72 : Value) (v73 : Value)   : Met l yX11_init wsX11_init ({ frames := 1, cells := 0, slots := 0, locals := 12 }) (va_Pc [.ref h63, .int 2] (fun U => U.heap.size = sz ∧ va_P (dC, dI) vwCl [(h63, .inr (13, [.int 0, v64, v65, v66, v67, v68, v69, v70, v71, v72, v73]))] U.heap ∧ va_K (dC, dI) vwCl [] U ∧ va_D (fun _ => True) [(h63, .inr (13, [.int 0, v64, v65, v66, v67, v68, v69, v70, v71, v72, v73]))])) (va_Qv (fun (_ : Unit) => True) (fun (u : Unit) t => match u with | () => va_P (dC, dI) vwCl [(h63, .inr (13, [.int 2, v64, v65, v66, v67, v68, v69, v70, v71, v72, v73]))] t.heap ∧ va_K (dC, dI) vwCl [] t ∧ va_D (va_A [(h63, .inr (13, [.int 0, v64, v65, v66, v67, v68, v69, v70, v71, v72, v73]))] sz) [(h63, .inr (13, [.int 2, v64, v65, v66, v67, v68, v69, v70, v71, v72, v73]))]) (va_A [(h63, .inr (13, [.int 0, v64, v65, v66, v67, v68, v69, v70, v71, v72, v73]))] sz)) 0 0 (va_A [(h63, .inr (13, [.int 0, v64, v65, v66, v67, v68, v69, v70, v71, v72, v73]))] sz) := by
  refine Met.ofW (cc := cX11_init) (maxL := 2) (ret := none) (by decide) rfl ?_
  intro p e s m args below meth c s₁ B hml hv
  obtain ⟨rfl, hsz, hP, hK, hD0⟩ := hv
  have hx := B.exec
  have hb := B.bytes
  have hr := B.returns
  have hts := atoms_spec (ws := wsX11_init) B.pre
  have hown : s.vm.findClass RX11 = some m.cls := findClass_of_methodNamed B.named
  have hlocks := B.notSynchronized
  have hin : meth.name = "<init>" := (name_of_methodNamed B.named B.method).1
  have hinX11 : ∀ w ∈ wsX110, w ∈ wsX11_init := fun w h => List.mem_cons_of_mem _ (List.mem_append_right _ (h))
  subst hsz
  have hD := hD0.self (sz := s.heap.size)
  generalize hAe : va_A [(h63, .inr (13, [.int 0, v64, v65, v66, v67, v68, v69, v70, v71, v72, v73]))] s.heap.size = A at hD ⊢
  have hA : ∀ q : Nat, s.heap.size ≤ q → A q := fun q h => by rw [← hAe]; exact Or.inr h
  have hS : va_S A s.heap s.heap [] := va_S.rf
  have hl := lv_entry ([.ref h63, .int 2]) (n := 2) (Nat.le_of_ble_eq_true rfl)
  rw [lg_entry_eq]
  generalize (lg_sl ([.ref h63, .int 2]) ++ List.replicate (2 - (lg_sl ([.ref h63, .int 2])).length) Slot.unset).toArray = ls at hl ⊢
  have hl : lv_has ls 2 [(0, .ref h63), (1, .int 2)] := hl
  refine lv_aload_n hx hb dX11_init_0 rfl (lv_at hl 0 rfl) ?_
  refine W.objInit hx hb hown (hts (.methodLink RX11 1 objectInit) (by decide +kernel)) (hts (.instanceMethod objectInit) (by decide +kernel)) (hts (.code objectInit ⟨#[0xb1]⟩ 1 none) (by decide +kernel)) rfl (by rw [hml]; exact hl.1) rfl dX11_init_1 (Nat.le_of_ble_eq_true rfl) (Nat.le_of_ble_eq_true rfl) ?_
  refine W.eq (g2 := F0 m 4 ls []) rfl ?_
  refine lv_aload_n hx hb dX11_init_4 rfl (lv_at hl 0 rfl) ?_
  refine lv_iload_n hx hb dX11_init_5 rfl (lv_at hl 1 rfl) ?_
  refine va_putF (D := (dC, dI)) (ci := 13) (v := .int 2) (ty := .int) (C := RX11) (T := TX11) (N := 11) hx hb hts hinX11 tyX11 tyX11_ok nmX11 hown hK hP hD hS 0 rfl rfl 0 (by decide) (hts (.fieldLink RX11 7 "GoalHouse$Val" "kind" "I") (by decide +kernel)) (fun _ h9 => h9) rfl hin rfl (by decide +kernel) rfl rfl (Nat.le_of_ble_eq_true rfl) dX11_init_6 (fun H locs hP hD hS => ?_)
  have hP : va_P (dC, dI) vwCl [(h63, .inr (13, [.int 2, v64, v65, v66, v67, v68, v69, v70, v71, v72, v73]))] H := hP
  have hD : va_D A [(h63, .inr (13, [.int 2, v64, v65, v66, v67, v68, v69, v70, v71, v72, v73]))] := hD
  have hP9 := hP.sub (ws' := [(h63, .inr (13, [.int 2, v64, v65, v66, v67, v68, v69, v70, v71, v72, v73]))]) [0] rfl
  have hD9 := hD.sub (ws' := [(h63, .inr (13, [.int 2, v64, v65, v66, v67, v68, v69, v70, v71, v72, v73]))]) [0] (by decide) rfl
  have hK9 := hK.sub (tys' := []) [] rfl
  exact W.vret hx hb hr (fun t ht hW => ⟨⟨(), rfl, trivial, by rw [ht]; exact hP9, va_K.moved hW.alike hK9, hD9⟩, hS.F ht⟩) hS.2.2 dX11_init_9
set_option maxHeartbeats 4000000 in
set_option maxRecDepth 100000 in
theorem m_X11_text_0 (l : Launch) (dC : Nat → ClassId) (dI : Nat → Nat → Nat) (sz : Nat) (h74 : Nat) (x75 : Int32) (x76 : Int32)   : Met l yX11_text wsX11_text ({ frames := 2, cells := 1, slots := 11, locals := 33 }) (va_Pc [.ref h74, .int x75, .int x76] (fun U => U.heap.size = sz ∧ va_P (dC, dI) vwCl [] U.heap ∧ va_K (dC, dI) vwCl [] U ∧ va_D (fun _ => True) [])) (va_Qr (fun (_ : Unit) => True) (fun (u : Unit) (q77 : Nat) t => match u with | () => va_P (dC, dI) vwCl [(q77, .inr (13, [.int 2, .long 0, .null, .ref h74, .int x75, .int x76, .null, .null, .null, .null, .null]))] t.heap ∧ va_K (dC, dI) vwCl [] t ∧ va_D (va_A [] sz) [(q77, .inr (13, [.int 2, .long 0, .null, .ref h74, .int x75, .int x76, .null, .null, .null, .null, .null]))]) (va_A [] sz)) 1 11 (va_A [] sz) := by
  refine Met.ofW (cc := cX11_text) (maxL := 4) (ret := (some (.object "GoalHouse$Val"))) (by decide) rfl ?_
  intro p e s m args below meth c s₁ B hml hv
  obtain ⟨rfl, hsz, hP, hK, hD0⟩ := hv
  have hx := B.exec
  have hb := B.bytes
  have hr := B.returns
  have hts := atoms_spec (ws := wsX11_text) B.pre
  have hown : s.vm.findClass RX11 = some m.cls := findClass_of_methodNamed B.named
  have hlocks := B.notSynchronized
  have hinX11 : ∀ w ∈ wsX110, w ∈ wsX11_text := fun w h => List.mem_cons_of_mem _ (List.mem_append_right _ (h))
  subst hsz
  have hD := hD0.self (sz := s.heap.size)
  generalize hAe : va_A [] s.heap.size = A at hD ⊢
  have hA : ∀ q : Nat, s.heap.size ≤ q → A q := fun q h => by rw [← hAe]; exact Or.inr h
  have hS : va_S A s.heap s.heap [] := va_S.rf
  have hl := lv_entry ([.ref h74, .int x75, .int x76]) (n := 4) (Nat.le_of_ble_eq_true rfl)
  rw [lg_entry_eq]
  generalize (lg_sl ([.ref h74, .int x75, .int x76]) ++ List.replicate (4 - (lg_sl ([.ref h74, .int x75, .int x76])).length) Slot.unset).toArray = ls at hl ⊢
  have hl : lv_has ls 4 [(0, .ref h74), (1, .int x75), (2, .int x76)] := hl
  refine va_new (ci := 13) (fs := [.int 0, .long 0, .null, .null, .int 0, .int 0, .null, .null, .null, .null, .null]) (C := RX11) (T := TX11) (N := 11) hx hb hts hinX11 tyX11 tyX11_ok hown (hts (.classLink RX11 8 RX11) (by decide +kernel)) (hts (.instantiable RX11 11) (by decide +kernel)) (hts (.initialized RX11) (by decide +kernel)) hK hP hD hS hA rfl (fun j hj => by rcases (show j = 0 ∨ j = 1 ∨ j = 2 ∨ j = 3 ∨ j = 4 ∨ j = 5 ∨ j = 6 ∨ j = 7 ∨ j = 8 ∨ j = 9 ∨ j = 10 by omega) with rfl | rfl | rfl | rfl | rfl | rfl | rfl | rfl | rfl | rfl | rfl <;> rfl) (Nat.le_of_ble_eq_true rfl) (Nat.le_of_ble_eq_true rfl) dX11_text_0 (fun q77 H hP hD hS => ?_)
  have hP : va_P (dC, dI) vwCl [(q77, .inr (13, [.int 0, .long 0, .null, .null, .int 0, .int 0, .null, .null, .null, .null, .null]))] H := hP
  have hD : va_D A [(q77, .inr (13, [.int 0, .long 0, .null, .null, .int 0, .int 0, .null, .null, .null, .null, .null]))] := hD
  refine W.widen (k := 1) (n := 11) (Nat.le_of_ble_eq_true rfl) (Nat.le_of_ble_eq_true rfl) ?_
  refine lv_dup hx hb dX11_text_3 rfl ?_
  refine lv_iconst (v := 2) hx hb dX11_text_4 (by decide) ?_
  have hPc := hP.sub (ws' := [(q77, .inr (13, [.int 0, .long 0, .null, .null, .int 0, .int 0, .null, .null, .null, .null, .null]))]) [0] rfl
  have hDc := hD.sub (ws' := [(q77, .inr (13, [.int 0, .long 0, .null, .null, .int 0, .int 0, .null, .null, .null, .null, .null]))]) [0] (by decide) rfl
  have hKc := hK.sub (tys' := []) [] rfl
  have hFc := va_free (wc := [(q77, .inr (13, [.int 0, .long 0, .null, .null, .int 0, .int 0, .null, .null, .null, .null, .null]))]) hD hS hA [0] rfl
  refine va_callv (va_runI (As := [.int 2]) (rest := [.ref q77]) ⟨hx, hb, hml, hown, hts⟩ (m_X11_init_2 l dC dI H.size q77 (.long 0) .null .null (.int 0) (.int 0) .null .null .null .null .null) (cwI 1 hts gX11_text_X11_init rfl rfl rfl (hts (.initialized RX11) (by decide +kernel)) (hts (.methodLink RX11 13 yX11_init) (by decide +kernel)) (hts (.instanceMethod yX11_init) (by decide +kernel)) rfl (by decide +kernel) ⟨Nat.le_of_ble_eq_true rfl, Nat.le_of_ble_eq_true rfl⟩) ⟨(fun a U g mk q => by obtain ⟨q0, q1, qP, qK, qD⟩ := q; exact ⟨q0, q1, qP, va_K.moved (u := U) (U := U.calling g mk a) (Vm.Alike.refl U.vm) qK, qD⟩), (fun U hU hW => ⟨rfl, by rw [hU], by rw [hU]; exact hPc, va_K.moved hW.alike hKc, hDc.weaken (fun _ _ _ _ => trivial)⟩)⟩ rfl rfl hl.1 rfl (lv_room (Nat.le_of_ble_eq_true rfl)) dX11_text_5 ⟨Nat.le_of_ble_eq_true rfl, Nat.le_of_ble_eq_true rfl⟩) hS (fun q _ h => hFc q h) hFc (fun u t H1 locs ht hvm hw hB hz1 hk1 hS => ?_)
  obtain ⟨hP1, hK1, hD1⟩ := hB
  rw [ht] at hP1
  have hK1 := va_K.moved hvm.symm hK1
  obtain ⟨hP, hD⟩ := va_join (wr := []) (w1 := [(q77, .inr (13, [.int 2, .long 0, .null, .null, .int 0, .int 0, .null, .null, .null, .null, .null]))]) hP hD [0] [] rfl rfl (by decide) (by decide) hk1 hFc hP1 hD1
  generalize H1 = H at hP hS ⊢
  have hP : va_P (dC, dI) vwCl [(q77, .inr (13, [.int 2, .long 0, .null, .null, .int 0, .int 0, .null, .null, .null, .null, .null]))] H := hP
  have hD : va_D A [(q77, .inr (13, [.int 2, .long 0, .null, .null, .int 0, .int 0, .null, .null, .null, .null, .null]))] := hD
  refine W.widen (k := 1) (n := 11) (Nat.le_of_ble_eq_true rfl) (Nat.le_of_ble_eq_true rfl) ?_
  refine lv_astore_n (lv' := [(3, .ref q77), (0, .ref h74), (1, .int x75), (2, .int x76)]) hx hb dX11_text_8 rfl hl (by decide) rfl (fun ls hl => ?_)
  refine lv_aload_n hx hb dX11_text_9 rfl (lv_at hl 0 rfl) ?_
  refine lv_aload_n hx hb dX11_text_10 rfl (lv_at hl 1 rfl) ?_
  refine va_put (D := (dC, dI)) (ci := 13) (v := .ref h74) (ty := (.array .byte)) (C := RX11) (T := TX11) (N := 11) hx hb hts hinX11 tyX11 tyX11_ok nmX11 hown hK hP hD hS 0 rfl rfl 3 (by decide) (hts (.fieldLink RX11 20 "GoalHouse$Val" "bytes" "[B") (by decide +kernel)) (fun _ h9 => h9) rfl (by decide +kernel) rfl rfl (Nat.le_of_ble_eq_true rfl) dX11_text_11 (fun H locs hP hD hS => ?_)
  have hP : va_P (dC, dI) vwCl [(q77, .inr (13, [.int 2, .long 0, .null, .ref h74, .int 0, .int 0, .null, .null, .null, .null, .null]))] H := hP
  have hD : va_D A [(q77, .inr (13, [.int 2, .long 0, .null, .ref h74, .int 0, .int 0, .null, .null, .null, .null, .null]))] := hD
  refine lv_aload_n hx hb dX11_text_14 rfl (lv_at hl 0 rfl) ?_
  refine lv_iload_n hx hb dX11_text_15 rfl (lv_at hl 2 rfl) ?_
  refine va_put (D := (dC, dI)) (ci := 13) (v := .int x75) (ty := .int) (C := RX11) (T := TX11) (N := 11) hx hb hts hinX11 tyX11 tyX11_ok nmX11 hown hK hP hD hS 0 rfl rfl 4 (by decide) (hts (.fieldLink RX11 24 "GoalHouse$Val" "off" "I") (by decide +kernel)) (fun _ h9 => h9) rfl (by decide +kernel) rfl rfl (Nat.le_of_ble_eq_true rfl) dX11_text_16 (fun H locs hP hD hS => ?_)
  have hP : va_P (dC, dI) vwCl [(q77, .inr (13, [.int 2, .long 0, .null, .ref h74, .int x75, .int 0, .null, .null, .null, .null, .null]))] H := hP
  have hD : va_D A [(q77, .inr (13, [.int 2, .long 0, .null, .ref h74, .int x75, .int 0, .null, .null, .null, .null, .null]))] := hD
  refine lv_aload_n hx hb dX11_text_19 rfl (lv_at hl 0 rfl) ?_
  refine lv_iload_n hx hb dX11_text_20 rfl (lv_at hl 3 rfl) ?_
  refine va_put (D := (dC, dI)) (ci := 13) (v := .int x76) (ty := .int) (C := RX11) (T := TX11) (N := 11) hx hb hts hinX11 tyX11 tyX11_ok nmX11 hown hK hP hD hS 0 rfl rfl 5 (by decide) (hts (.fieldLink RX11 27 "GoalHouse$Val" "len" "I") (by decide +kernel)) (fun _ h9 => h9) rfl (by decide +kernel) rfl rfl (Nat.le_of_ble_eq_true rfl) dX11_text_21 (fun H locs hP hD hS => ?_)
  have hP : va_P (dC, dI) vwCl [(q77, .inr (13, [.int 2, .long 0, .null, .ref h74, .int x75, .int x76, .null, .null, .null, .null, .null]))] H := hP
  have hD : va_D A [(q77, .inr (13, [.int 2, .long 0, .null, .ref h74, .int x75, .int x76, .null, .null, .null, .null, .null]))] := hD
  refine lv_aload_n hx hb dX11_text_24 rfl (lv_at hl 0 rfl) ?_
  have hP9 := hP.sub (ws' := [(q77, .inr (13, [.int 2, .long 0, .null, .ref h74, .int x75, .int x76, .null, .null, .null, .null, .null]))]) [0] rfl
  have hD9 := hD.sub (ws' := [(q77, .inr (13, [.int 2, .long 0, .null, .ref h74, .int x75, .int x76, .null, .null, .null, .null, .null]))]) [0] (by decide) rfl
  have hK9 := hK.sub (tys' := []) [] rfl
  exact W.aret (v := .ref q77) hx hb hr (Or.inl ⟨_, rfl⟩) (Or.inr ⟨_, rfl⟩) (fun t ht hW => ⟨⟨(), q77, rfl, trivial, by rw [ht]; exact hP9, va_K.moved hW.alike hK9, hD9⟩, hS.F ht⟩) hS.2.2 dX11_text_25
set_option maxHeartbeats 4000000 in
set_option maxRecDepth 100000 in
theorem m_X11_init_3 (l : Launch) (dC : Nat → ClassId) (dI : Nat → Nat → Nat) (sz : Nat) (h90 : Nat) (v91 : Value) (v92 : Value) (v93 : Value) (v94 : Value) (v95 : Value) (v96 : Value) (v97 : Value) (v98 : Value) (v99 : Value) (v100 : Value)   : Met l yX11_init wsX11_init ({ frames := 1, cells := 0, slots := 0, locals := 12 }) (va_Pc [.ref h90, .int 3] (fun U => U.heap.size = sz ∧ va_P (dC, dI) vwCl [(h90, .inr (13, [.int 0, v91, v92, v93, v94, v95, v96, v97, v98, v99, v100]))] U.heap ∧ va_K (dC, dI) vwCl [] U ∧ va_D (fun _ => True) [(h90, .inr (13, [.int 0, v91, v92, v93, v94, v95, v96, v97, v98, v99, v100]))])) (va_Qv (fun (_ : Unit) => True) (fun (u : Unit) t => match u with | () => va_P (dC, dI) vwCl [(h90, .inr (13, [.int 3, v91, v92, v93, v94, v95, v96, v97, v98, v99, v100]))] t.heap ∧ va_K (dC, dI) vwCl [] t ∧ va_D (va_A [(h90, .inr (13, [.int 0, v91, v92, v93, v94, v95, v96, v97, v98, v99, v100]))] sz) [(h90, .inr (13, [.int 3, v91, v92, v93, v94, v95, v96, v97, v98, v99, v100]))]) (va_A [(h90, .inr (13, [.int 0, v91, v92, v93, v94, v95, v96, v97, v98, v99, v100]))] sz)) 0 0 (va_A [(h90, .inr (13, [.int 0, v91, v92, v93, v94, v95, v96, v97, v98, v99, v100]))] sz) := by
  refine Met.ofW (cc := cX11_init) (maxL := 2) (ret := none) (by decide) rfl ?_
  intro p e s m args below meth c s₁ B hml hv
  obtain ⟨rfl, hsz, hP, hK, hD0⟩ := hv
  have hx := B.exec
  have hb := B.bytes
  have hr := B.returns
  have hts := atoms_spec (ws := wsX11_init) B.pre
  have hown : s.vm.findClass RX11 = some m.cls := findClass_of_methodNamed B.named
  have hlocks := B.notSynchronized
  have hin : meth.name = "<init>" := (name_of_methodNamed B.named B.method).1
  have hinX11 : ∀ w ∈ wsX110, w ∈ wsX11_init := fun w h => List.mem_cons_of_mem _ (List.mem_append_right _ (h))
  subst hsz
  have hD := hD0.self (sz := s.heap.size)
  generalize hAe : va_A [(h90, .inr (13, [.int 0, v91, v92, v93, v94, v95, v96, v97, v98, v99, v100]))] s.heap.size = A at hD ⊢
  have hA : ∀ q : Nat, s.heap.size ≤ q → A q := fun q h => by rw [← hAe]; exact Or.inr h
  have hS : va_S A s.heap s.heap [] := va_S.rf
  have hl := lv_entry ([.ref h90, .int 3]) (n := 2) (Nat.le_of_ble_eq_true rfl)
  rw [lg_entry_eq]
  generalize (lg_sl ([.ref h90, .int 3]) ++ List.replicate (2 - (lg_sl ([.ref h90, .int 3])).length) Slot.unset).toArray = ls at hl ⊢
  have hl : lv_has ls 2 [(0, .ref h90), (1, .int 3)] := hl
  refine lv_aload_n hx hb dX11_init_0 rfl (lv_at hl 0 rfl) ?_
  refine W.objInit hx hb hown (hts (.methodLink RX11 1 objectInit) (by decide +kernel)) (hts (.instanceMethod objectInit) (by decide +kernel)) (hts (.code objectInit ⟨#[0xb1]⟩ 1 none) (by decide +kernel)) rfl (by rw [hml]; exact hl.1) rfl dX11_init_1 (Nat.le_of_ble_eq_true rfl) (Nat.le_of_ble_eq_true rfl) ?_
  refine W.eq (g2 := F0 m 4 ls []) rfl ?_
  refine lv_aload_n hx hb dX11_init_4 rfl (lv_at hl 0 rfl) ?_
  refine lv_iload_n hx hb dX11_init_5 rfl (lv_at hl 1 rfl) ?_
  refine va_putF (D := (dC, dI)) (ci := 13) (v := .int 3) (ty := .int) (C := RX11) (T := TX11) (N := 11) hx hb hts hinX11 tyX11 tyX11_ok nmX11 hown hK hP hD hS 0 rfl rfl 0 (by decide) (hts (.fieldLink RX11 7 "GoalHouse$Val" "kind" "I") (by decide +kernel)) (fun _ h9 => h9) rfl hin rfl (by decide +kernel) rfl rfl (Nat.le_of_ble_eq_true rfl) dX11_init_6 (fun H locs hP hD hS => ?_)
  have hP : va_P (dC, dI) vwCl [(h90, .inr (13, [.int 3, v91, v92, v93, v94, v95, v96, v97, v98, v99, v100]))] H := hP
  have hD : va_D A [(h90, .inr (13, [.int 3, v91, v92, v93, v94, v95, v96, v97, v98, v99, v100]))] := hD
  have hP9 := hP.sub (ws' := [(h90, .inr (13, [.int 3, v91, v92, v93, v94, v95, v96, v97, v98, v99, v100]))]) [0] rfl
  have hD9 := hD.sub (ws' := [(h90, .inr (13, [.int 3, v91, v92, v93, v94, v95, v96, v97, v98, v99, v100]))]) [0] (by decide) rfl
  have hK9 := hK.sub (tys' := []) [] rfl
  exact W.vret hx hb hr (fun t ht hW => ⟨⟨(), rfl, trivial, by rw [ht]; exact hP9, va_K.moved hW.alike hK9, hD9⟩, hS.F ht⟩) hS.2.2 dX11_init_9
set_option maxHeartbeats 4000000 in
set_option maxRecDepth 100000 in
theorem m_X3_emptySet_0 (l : Launch) (dC : Nat → ClassId) (dI : Nat → Nat → Nat) (sz : Nat)    : Met l yX3_emptySet wsX3_emptySet ({ frames := 2, cells := 2, slots := 15, locals := 33 }) (va_Pc [] (fun U => U.heap.size = sz ∧ va_P (dC, dI) vwCl [] U.heap ∧ va_K (dC, dI) vwCl [] U ∧ va_D (fun _ => True) [])) (va_Qr (fun (_ : Nat × ClassId) => True) (fun (u : Nat × ClassId) (q103 : Nat) t => match u with | (q115, cA116) => va_P (dC, dI) vwCl [(q103, .inr (13, [.int 3, .long 0, .null, .null, .int 0, .int 0, .ref q115, .null, .null, .null, .null])), (q115, .inl (cA116, 4, .inr (.inl (fun _ => 0))))] t.heap ∧ va_K (dC, dI) vwCl [(cA116, .long)] t ∧ va_D (va_A [] sz) [(q103, .inr (13, [.int 3, .long 0, .null, .null, .int 0, .int 0, .ref q115, .null, .null, .null, .null])), (q115, .inl (cA116, 4, .inr (.inl (fun _ => 0))))]) (va_A [] sz)) 2 15 (va_A [] sz) := by
  refine Met.ofW (cc := cX3_emptySet) (maxL := 1) (ret := (some (.object "GoalHouse$Val"))) (by decide) rfl ?_
  intro p e s m args below meth c s₁ B hml hv
  obtain ⟨rfl, hsz, hP, hK, hD0⟩ := hv
  have hx := B.exec
  have hb := B.bytes
  have hr := B.returns
  have hts := atoms_spec (ws := wsX3_emptySet) B.pre
  have hown : s.vm.findClass RX3 = some m.cls := findClass_of_methodNamed B.named
  have hlocks := B.notSynchronized
  have hinX11 : ∀ w ∈ wsX110, w ∈ wsX3_emptySet := fun w h => List.mem_cons_of_mem _ (List.mem_append_right _ (h))
  subst hsz
  have hD := hD0.self (sz := s.heap.size)
  generalize hAe : va_A [] s.heap.size = A at hD ⊢
  have hA : ∀ q : Nat, s.heap.size ≤ q → A q := fun q h => by rw [← hAe]; exact Or.inr h
  have hS : va_S A s.heap s.heap [] := va_S.rf
  have hl := lv_entry ([]) (n := 1) (Nat.le_of_ble_eq_true rfl)
  rw [lg_entry_eq]
  generalize (lg_sl ([]) ++ List.replicate (1 - (lg_sl ([])).length) Slot.unset).toArray = ls at hl ⊢
  have hl : lv_has ls 1 [] := hl
  refine va_new (ci := 13) (fs := [.int 0, .long 0, .null, .null, .int 0, .int 0, .null, .null, .null, .null, .null]) (C := RX11) (T := TX11) (N := 11) hx hb hts hinX11 tyX11 tyX11_ok hown (hts (.classLink RX3 9 RX11) (by decide +kernel)) (hts (.instantiable RX11 11) (by decide +kernel)) (hts (.initialized RX11) (by decide +kernel)) hK hP hD hS hA rfl (fun j hj => by rcases (show j = 0 ∨ j = 1 ∨ j = 2 ∨ j = 3 ∨ j = 4 ∨ j = 5 ∨ j = 6 ∨ j = 7 ∨ j = 8 ∨ j = 9 ∨ j = 10 by omega) with rfl | rfl | rfl | rfl | rfl | rfl | rfl | rfl | rfl | rfl | rfl <;> rfl) (Nat.le_of_ble_eq_true rfl) (Nat.le_of_ble_eq_true rfl) dX3_emptySet_0 (fun q103 H hP hD hS => ?_)
  have hP : va_P (dC, dI) vwCl [(q103, .inr (13, [.int 0, .long 0, .null, .null, .int 0, .int 0, .null, .null, .null, .null, .null]))] H := hP
  have hD : va_D A [(q103, .inr (13, [.int 0, .long 0, .null, .null, .int 0, .int 0, .null, .null, .null, .null, .null]))] := hD
  refine W.widen (k := 1) (n := 11) (Nat.le_of_ble_eq_true rfl) (Nat.le_of_ble_eq_true rfl) ?_
  refine lv_dup hx hb dX3_emptySet_3 rfl ?_
  refine lv_iconst (v := 3) hx hb dX3_emptySet_4 (by decide) ?_
  have hPc := hP.sub (ws' := [(q103, .inr (13, [.int 0, .long 0, .null, .null, .int 0, .int 0, .null, .null, .null, .null, .null]))]) [0] rfl
  have hDc := hD.sub (ws' := [(q103, .inr (13, [.int 0, .long 0, .null, .null, .int 0, .int 0, .null, .null, .null, .null, .null]))]) [0] (by decide) rfl
  have hKc := hK.sub (tys' := []) [] rfl
  have hFc := va_free (wc := [(q103, .inr (13, [.int 0, .long 0, .null, .null, .int 0, .int 0, .null, .null, .null, .null, .null]))]) hD hS hA [0] rfl
  refine va_callv (va_runI (As := [.int 3]) (rest := [.ref q103]) ⟨hx, hb, hml, hown, hts⟩ (m_X11_init_3 l dC dI H.size q103 (.long 0) .null .null (.int 0) (.int 0) .null .null .null .null .null) (cwI 1 hts gX3_emptySet_X11_init rfl rfl rfl (hts (.initialized RX11) (by decide +kernel)) (hts (.methodLink RX3 11 yX11_init) (by decide +kernel)) (hts (.instanceMethod yX11_init) (by decide +kernel)) rfl (by decide +kernel) ⟨Nat.le_of_ble_eq_true rfl, Nat.le_of_ble_eq_true rfl⟩) ⟨(fun a U g mk q => by obtain ⟨q0, q1, qP, qK, qD⟩ := q; exact ⟨q0, q1, qP, va_K.moved (u := U) (U := U.calling g mk a) (Vm.Alike.refl U.vm) qK, qD⟩), (fun U hU hW => ⟨rfl, by rw [hU], by rw [hU]; exact hPc, va_K.moved hW.alike hKc, hDc.weaken (fun _ _ _ _ => trivial)⟩)⟩ rfl rfl hl.1 rfl (lv_room (Nat.le_of_ble_eq_true rfl)) dX3_emptySet_5 ⟨Nat.le_of_ble_eq_true rfl, Nat.le_of_ble_eq_true rfl⟩) hS (fun q _ h => hFc q h) hFc (fun u t H1 locs ht hvm hw hB hz1 hk1 hS => ?_)
  obtain ⟨hP1, hK1, hD1⟩ := hB
  rw [ht] at hP1
  have hK1 := va_K.moved hvm.symm hK1
  obtain ⟨hP, hD⟩ := va_join (wr := []) (w1 := [(q103, .inr (13, [.int 3, .long 0, .null, .null, .int 0, .int 0, .null, .null, .null, .null, .null]))]) hP hD [0] [] rfl rfl (by decide) (by decide) hk1 hFc hP1 hD1
  generalize H1 = H at hP hS ⊢
  have hP : va_P (dC, dI) vwCl [(q103, .inr (13, [.int 3, .long 0, .null, .null, .int 0, .int 0, .null, .null, .null, .null, .null]))] H := hP
  have hD : va_D A [(q103, .inr (13, [.int 3, .long 0, .null, .null, .int 0, .int 0, .null, .null, .null, .null, .null]))] := hD
  refine W.widen (k := 1) (n := 11) (Nat.le_of_ble_eq_true rfl) (Nat.le_of_ble_eq_true rfl) ?_
  refine lv_astore_n (lv' := [(0, .ref q103)]) hx hb dX3_emptySet_8 rfl hl (by decide) rfl (fun ls hl => ?_)
  refine lv_aload_n hx hb dX3_emptySet_9 rfl (lv_at hl 0 rfl) ?_
  refine lv_iconst (v := 4) hx hb dX3_emptySet_10 (by decide) ?_
  refine va_newa (atype := .long) (a0 := (4, .inr (.inl (fun _ => 0)))) (N' := 4) hx hb (hts (.arrayClass .long) (by decide +kernel)) rfl hK hP hD hS hA (fun _ => rfl) (by decide) (by decide) (Nat.le_of_ble_eq_true rfl) (Nat.le_of_ble_eq_true rfl) (Nat.le_of_ble_eq_true rfl) dX3_emptySet_11 (fun q115 cA116 H hK hP hD hS => ?_)
  have hK : va_K (dC, dI) vwCl [(cA116, .long)] s := hK
  have hP : va_P (dC, dI) vwCl [(q103, .inr (13, [.int 3, .long 0, .null, .null, .int 0, .int 0, .null, .null, .null, .null, .null])), (q115, .inl (cA116, 4, .inr (.inl (fun _ => 0))))] H := hP
  have hD : va_D A [(q103, .inr (13, [.int 3, .long 0, .null, .null, .int 0, .int 0, .null, .null, .null, .null, .null])), (q115, .inl (cA116, 4, .inr (.inl (fun _ => 0))))] := hD
  refine W.widen (k := 2) (n := 15) (Nat.le_of_ble_eq_true rfl) (Nat.le_of_ble_eq_true rfl) ?_
  refine va_put (D := (dC, dI)) (ci := 13) (v := .ref q115) (ty := (.array .long)) (C := RX11) (T := TX11) (N := 11) hx hb hts hinX11 tyX11 tyX11_ok nmX11 hown hK hP hD hS 0 rfl rfl 6 (by decide) (hts (.fieldLink RX3 99 "GoalHouse$Val" "bits" "[J") (by decide +kernel)) (fun _ h9 => h9) rfl (by decide +kernel) rfl rfl (Nat.le_of_ble_eq_true rfl) dX3_emptySet_13 (fun H locs hP hD hS => ?_)
  have hP : va_P (dC, dI) vwCl [(q103, .inr (13, [.int 3, .long 0, .null, .null, .int 0, .int 0, .ref q115, .null, .null, .null, .null])), (q115, .inl (cA116, 4, .inr (.inl (fun _ => 0))))] H := hP
  have hD : va_D A [(q103, .inr (13, [.int 3, .long 0, .null, .null, .int 0, .int 0, .ref q115, .null, .null, .null, .null])), (q115, .inl (cA116, 4, .inr (.inl (fun _ => 0))))] := hD
  refine lv_aload_n hx hb dX3_emptySet_16 rfl (lv_at hl 0 rfl) ?_
  have hP9 := hP.sub (ws' := [(q103, .inr (13, [.int 3, .long 0, .null, .null, .int 0, .int 0, .ref q115, .null, .null, .null, .null])), (q115, .inl (cA116, 4, .inr (.inl (fun _ => 0))))]) [0, 1] rfl
  have hD9 := hD.sub (ws' := [(q103, .inr (13, [.int 3, .long 0, .null, .null, .int 0, .int 0, .ref q115, .null, .null, .null, .null])), (q115, .inl (cA116, 4, .inr (.inl (fun _ => 0))))]) [0, 1] (by decide) rfl
  have hK9 := hK.sub (tys' := [(cA116, .long)]) [0] rfl
  exact W.aret (v := .ref q103) hx hb hr (Or.inl ⟨_, rfl⟩) (Or.inr ⟨_, rfl⟩) (fun t ht hW => ⟨⟨(q115, cA116), q103, rfl, trivial, by rw [ht]; exact hP9, va_K.moved hW.alike hK9, hD9⟩, hS.F ht⟩) hS.2.2 dX3_emptySet_17
set_option maxHeartbeats 4000000 in
set_option maxRecDepth 100000 in
theorem m_X11_init_4 (l : Launch) (dC : Nat → ClassId) (dI : Nat → Nat → Nat) (sz : Nat) (h119 : Nat) (v120 : Value) (v121 : Value) (v122 : Value) (v123 : Value) (v124 : Value) (v125 : Value) (v126 : Value) (v127 : Value) (v128 : Value) (v129 : Value)   : Met l yX11_init wsX11_init ({ frames := 1, cells := 0, slots := 0, locals := 12 }) (va_Pc [.ref h119, .int 6] (fun U => U.heap.size = sz ∧ va_P (dC, dI) vwCl [(h119, .inr (13, [.int 0, v120, v121, v122, v123, v124, v125, v126, v127, v128, v129]))] U.heap ∧ va_K (dC, dI) vwCl [] U ∧ va_D (fun _ => True) [(h119, .inr (13, [.int 0, v120, v121, v122, v123, v124, v125, v126, v127, v128, v129]))])) (va_Qv (fun (_ : Unit) => True) (fun (u : Unit) t => match u with | () => va_P (dC, dI) vwCl [(h119, .inr (13, [.int 6, v120, v121, v122, v123, v124, v125, v126, v127, v128, v129]))] t.heap ∧ va_K (dC, dI) vwCl [] t ∧ va_D (va_A [(h119, .inr (13, [.int 0, v120, v121, v122, v123, v124, v125, v126, v127, v128, v129]))] sz) [(h119, .inr (13, [.int 6, v120, v121, v122, v123, v124, v125, v126, v127, v128, v129]))]) (va_A [(h119, .inr (13, [.int 0, v120, v121, v122, v123, v124, v125, v126, v127, v128, v129]))] sz)) 0 0 (va_A [(h119, .inr (13, [.int 0, v120, v121, v122, v123, v124, v125, v126, v127, v128, v129]))] sz) := by
  refine Met.ofW (cc := cX11_init) (maxL := 2) (ret := none) (by decide) rfl ?_
  intro p e s m args below meth c s₁ B hml hv
  obtain ⟨rfl, hsz, hP, hK, hD0⟩ := hv
  have hx := B.exec
  have hb := B.bytes
  have hr := B.returns
  have hts := atoms_spec (ws := wsX11_init) B.pre
  have hown : s.vm.findClass RX11 = some m.cls := findClass_of_methodNamed B.named
  have hlocks := B.notSynchronized
  have hin : meth.name = "<init>" := (name_of_methodNamed B.named B.method).1
  have hinX11 : ∀ w ∈ wsX110, w ∈ wsX11_init := fun w h => List.mem_cons_of_mem _ (List.mem_append_right _ (h))
  subst hsz
  have hD := hD0.self (sz := s.heap.size)
  generalize hAe : va_A [(h119, .inr (13, [.int 0, v120, v121, v122, v123, v124, v125, v126, v127, v128, v129]))] s.heap.size = A at hD ⊢
  have hA : ∀ q : Nat, s.heap.size ≤ q → A q := fun q h => by rw [← hAe]; exact Or.inr h
  have hS : va_S A s.heap s.heap [] := va_S.rf
  have hl := lv_entry ([.ref h119, .int 6]) (n := 2) (Nat.le_of_ble_eq_true rfl)
  rw [lg_entry_eq]
  generalize (lg_sl ([.ref h119, .int 6]) ++ List.replicate (2 - (lg_sl ([.ref h119, .int 6])).length) Slot.unset).toArray = ls at hl ⊢
  have hl : lv_has ls 2 [(0, .ref h119), (1, .int 6)] := hl
  refine lv_aload_n hx hb dX11_init_0 rfl (lv_at hl 0 rfl) ?_
  refine W.objInit hx hb hown (hts (.methodLink RX11 1 objectInit) (by decide +kernel)) (hts (.instanceMethod objectInit) (by decide +kernel)) (hts (.code objectInit ⟨#[0xb1]⟩ 1 none) (by decide +kernel)) rfl (by rw [hml]; exact hl.1) rfl dX11_init_1 (Nat.le_of_ble_eq_true rfl) (Nat.le_of_ble_eq_true rfl) ?_
  refine W.eq (g2 := F0 m 4 ls []) rfl ?_
  refine lv_aload_n hx hb dX11_init_4 rfl (lv_at hl 0 rfl) ?_
  refine lv_iload_n hx hb dX11_init_5 rfl (lv_at hl 1 rfl) ?_
  refine va_putF (D := (dC, dI)) (ci := 13) (v := .int 6) (ty := .int) (C := RX11) (T := TX11) (N := 11) hx hb hts hinX11 tyX11 tyX11_ok nmX11 hown hK hP hD hS 0 rfl rfl 0 (by decide) (hts (.fieldLink RX11 7 "GoalHouse$Val" "kind" "I") (by decide +kernel)) (fun _ h9 => h9) rfl hin rfl (by decide +kernel) rfl rfl (Nat.le_of_ble_eq_true rfl) dX11_init_6 (fun H locs hP hD hS => ?_)
  have hP : va_P (dC, dI) vwCl [(h119, .inr (13, [.int 6, v120, v121, v122, v123, v124, v125, v126, v127, v128, v129]))] H := hP
  have hD : va_D A [(h119, .inr (13, [.int 6, v120, v121, v122, v123, v124, v125, v126, v127, v128, v129]))] := hD
  have hP9 := hP.sub (ws' := [(h119, .inr (13, [.int 6, v120, v121, v122, v123, v124, v125, v126, v127, v128, v129]))]) [0] rfl
  have hD9 := hD.sub (ws' := [(h119, .inr (13, [.int 6, v120, v121, v122, v123, v124, v125, v126, v127, v128, v129]))]) [0] (by decide) rfl
  have hK9 := hK.sub (tys' := []) [] rfl
  exact W.vret hx hb hr (fun t ht hW => ⟨⟨(), rfl, trivial, by rw [ht]; exact hP9, va_K.moved hW.alike hK9, hD9⟩, hS.F ht⟩) hS.2.2 dX11_init_9
set_option maxHeartbeats 4000000 in
set_option maxRecDepth 100000 in
theorem m_X10_init_0 (l : Launch) (dC : Nat → ClassId) (dI : Nat → Nat → Nat) (sz : Nat) (h130 : Nat) (h131 : Nat) (v132 : Value) (v133 : Value) (v134 : Value) (v135 : Value) (v136 : Value) (v137 : Value) (v138 : Value) (v139 : Value) (v140 : Value) (v141 : Value) (v142 : Value) (v143 : Value) (v144 : Value) (v145 : Value) (v146 : Value) (v147 : Value) (v148 : Value)   : Met l yX10_init wsX10_init ({ frames := 1, cells := 0, slots := 0, locals := 12 }) (va_Pc [.ref h130, .int 6, .ref h131] (fun U => U.heap.size = sz ∧ va_P (dC, dI) vwCl [(h130, .inr (12, [.int 0, .null, v132, v133, v134, v135, v136, v137, v138, v139, v140, v141, v142, v143, v144, v145, v146, v147, v148]))] U.heap ∧ va_K (dC, dI) vwCl [] U ∧ va_D (fun _ => True) [(h130, .inr (12, [.int 0, .null, v132, v133, v134, v135, v136, v137, v138, v139, v140, v141, v142, v143, v144, v145, v146, v147, v148]))])) (va_Qv (fun (_ : Unit) => True) (fun (u : Unit) t => match u with | () => va_P (dC, dI) vwCl [(h130, .inr (12, [.int 6, .ref h131, v132, v133, v134, v135, v136, v137, v138, v139, v140, v141, v142, v143, v144, v145, v146, v147, v148]))] t.heap ∧ va_K (dC, dI) vwCl [] t ∧ va_D (va_A [(h130, .inr (12, [.int 0, .null, v132, v133, v134, v135, v136, v137, v138, v139, v140, v141, v142, v143, v144, v145, v146, v147, v148]))] sz) [(h130, .inr (12, [.int 6, .ref h131, v132, v133, v134, v135, v136, v137, v138, v139, v140, v141, v142, v143, v144, v145, v146, v147, v148]))]) (va_A [(h130, .inr (12, [.int 0, .null, v132, v133, v134, v135, v136, v137, v138, v139, v140, v141, v142, v143, v144, v145, v146, v147, v148]))] sz)) 0 0 (va_A [(h130, .inr (12, [.int 0, .null, v132, v133, v134, v135, v136, v137, v138, v139, v140, v141, v142, v143, v144, v145, v146, v147, v148]))] sz) := by
  refine Met.ofW (cc := cX10_init) (maxL := 3) (ret := none) (by decide) rfl ?_
  intro p e s m args below meth c s₁ B hml hv
  obtain ⟨rfl, hsz, hP, hK, hD0⟩ := hv
  have hx := B.exec
  have hb := B.bytes
  have hr := B.returns
  have hts := atoms_spec (ws := wsX10_init) B.pre
  have hown : s.vm.findClass RX10 = some m.cls := findClass_of_methodNamed B.named
  have hlocks := B.notSynchronized
  have hin : meth.name = "<init>" := (name_of_methodNamed B.named B.method).1
  have hinX10 : ∀ w ∈ wsX100, w ∈ wsX10_init := fun w h => List.mem_cons_of_mem _ (List.mem_append_right _ (h))
  subst hsz
  have hD := hD0.self (sz := s.heap.size)
  generalize hAe : va_A [(h130, .inr (12, [.int 0, .null, v132, v133, v134, v135, v136, v137, v138, v139, v140, v141, v142, v143, v144, v145, v146, v147, v148]))] s.heap.size = A at hD ⊢
  have hA : ∀ q : Nat, s.heap.size ≤ q → A q := fun q h => by rw [← hAe]; exact Or.inr h
  have hS : va_S A s.heap s.heap [] := va_S.rf
  have hl := lv_entry ([.ref h130, .int 6, .ref h131]) (n := 3) (Nat.le_of_ble_eq_true rfl)
  rw [lg_entry_eq]
  generalize (lg_sl ([.ref h130, .int 6, .ref h131]) ++ List.replicate (3 - (lg_sl ([.ref h130, .int 6, .ref h131])).length) Slot.unset).toArray = ls at hl ⊢
  have hl : lv_has ls 3 [(0, .ref h130), (1, .int 6), (2, .ref h131)] := hl
  refine lv_aload_n hx hb dX10_init_0 rfl (lv_at hl 0 rfl) ?_
  refine W.objInit hx hb hown (hts (.methodLink RX10 3 objectInit) (by decide +kernel)) (hts (.instanceMethod objectInit) (by decide +kernel)) (hts (.code objectInit ⟨#[0xb1]⟩ 1 none) (by decide +kernel)) rfl (by rw [hml]; exact hl.1) rfl dX10_init_1 (Nat.le_of_ble_eq_true rfl) (Nat.le_of_ble_eq_true rfl) ?_
  refine W.eq (g2 := F0 m 4 ls []) rfl ?_
  refine lv_aload_n hx hb dX10_init_4 rfl (lv_at hl 0 rfl) ?_
  refine lv_iload_n hx hb dX10_init_5 rfl (lv_at hl 1 rfl) ?_
  refine va_putF (D := (dC, dI)) (ci := 12) (v := .int 6) (ty := .int) (C := RX10) (T := TX10) (N := 19) hx hb hts hinX10 tyX10 tyX10_ok nmX10 hown hK hP hD hS 0 rfl rfl 0 (by decide) (hts (.fieldLink RX10 9 "GoalHouse$Thing" "kind" "I") (by decide +kernel)) (fun _ h9 => h9) rfl hin rfl (by decide +kernel) rfl rfl (Nat.le_of_ble_eq_true rfl) dX10_init_6 (fun H locs hP hD hS => ?_)
  have hP : va_P (dC, dI) vwCl [(h130, .inr (12, [.int 6, .null, v132, v133, v134, v135, v136, v137, v138, v139, v140, v141, v142, v143, v144, v145, v146, v147, v148]))] H := hP
  have hD : va_D A [(h130, .inr (12, [.int 6, .null, v132, v133, v134, v135, v136, v137, v138, v139, v140, v141, v142, v143, v144, v145, v146, v147, v148]))] := hD
  refine lv_aload_n hx hb dX10_init_9 rfl (lv_at hl 0 rfl) ?_
  refine lv_aload_n hx hb dX10_init_10 rfl (lv_at hl 2 rfl) ?_
  refine va_putF (D := (dC, dI)) (ci := 12) (v := .ref h131) (ty := (.object "GoalHouse$Val")) (C := RX10) (T := TX10) (N := 19) hx hb hts hinX10 tyX10 tyX10_ok nmX10 hown hK hP hD hS 0 rfl rfl 1 (by decide) (hts (.fieldLink RX10 15 "GoalHouse$Thing" "self" "LGoalHouse$Val;") (by decide +kernel)) (fun _ h9 => h9) rfl hin rfl (by decide +kernel) rfl rfl (Nat.le_of_ble_eq_true rfl) dX10_init_11 (fun H locs hP hD hS => ?_)
  have hP : va_P (dC, dI) vwCl [(h130, .inr (12, [.int 6, .ref h131, v132, v133, v134, v135, v136, v137, v138, v139, v140, v141, v142, v143, v144, v145, v146, v147, v148]))] H := hP
  have hD : va_D A [(h130, .inr (12, [.int 6, .ref h131, v132, v133, v134, v135, v136, v137, v138, v139, v140, v141, v142, v143, v144, v145, v146, v147, v148]))] := hD
  have hP9 := hP.sub (ws' := [(h130, .inr (12, [.int 6, .ref h131, v132, v133, v134, v135, v136, v137, v138, v139, v140, v141, v142, v143, v144, v145, v146, v147, v148]))]) [0] rfl
  have hD9 := hD.sub (ws' := [(h130, .inr (12, [.int 6, .ref h131, v132, v133, v134, v135, v136, v137, v138, v139, v140, v141, v142, v143, v144, v145, v146, v147, v148]))]) [0] (by decide) rfl
  have hK9 := hK.sub (tys' := []) [] rfl
  exact W.vret hx hb hr (fun t ht hW => ⟨⟨(), rfl, trivial, by rw [ht]; exact hP9, va_K.moved hW.alike hK9, hD9⟩, hS.F ht⟩) hS.2.2 dX10_init_14
set_option maxHeartbeats 4000000 in
set_option maxRecDepth 100000 in
theorem m_X10_make_0 (l : Launch) (dC : Nat → ClassId) (dI : Nat → Nat → Nat) (sz : Nat)    : Met l yX10_make wsX10_make ({ frames := 2, cells := 2, slots := 30, locals := 34 }) (va_Pc [.int 6] (fun U => U.heap.size = sz ∧ va_P (dC, dI) vwCl [] U.heap ∧ va_K (dC, dI) vwCl [] U ∧ va_D (fun _ => True) [])) (va_Qr (fun (_ : Nat) => True) (fun (u : Nat) (q149 : Nat) t => match u with | q150 => va_P (dC, dI) vwCl [(q149, .inr (12, [.int 6, .ref q150, .int 0, .null, .null, .int 0, .int 0, .int 0, .null, .null, .null, .null, .null, .null, .null, .null, .int 0, .int 0, .int 0])), (q150, .inr (13, [.int 6, .long 0, .null, .null, .int 0, .int 0, .null, .ref q149, .null, .null, .null]))] t.heap ∧ va_K (dC, dI) vwCl [] t ∧ va_D (va_A [] sz) [(q149, .inr (12, [.int 6, .ref q150, .int 0, .null, .null, .int 0, .int 0, .int 0, .null, .null, .null, .null, .null, .null, .null, .null, .int 0, .int 0, .int 0])), (q150, .inr (13, [.int 6, .long 0, .null, .null, .int 0, .int 0, .null, .ref q149, .null, .null, .null]))]) (va_A [] sz)) 2 30 (va_A [] sz) := by
  refine Met.ofW (cc := cX10_make) (maxL := 2) (ret := (some (.object "GoalHouse$Thing"))) (by decide) rfl ?_
  intro p e s m args below meth c s₁ B hml hv
  obtain ⟨rfl, hsz, hP, hK, hD0⟩ := hv
  have hx := B.exec
  have hb := B.bytes
  have hr := B.returns
  have hts := atoms_spec (ws := wsX10_make) B.pre
  have hown : s.vm.findClass RX10 = some m.cls := findClass_of_methodNamed B.named
  have hlocks := B.notSynchronized
  have hinX10 : ∀ w ∈ wsX100, w ∈ wsX10_make := fun w h => List.mem_cons_of_mem _ (List.mem_append_left _ (List.mem_append_right _ (h)))
  have hinX11 : ∀ w ∈ wsX110, w ∈ wsX10_make := fun w h => List.mem_cons_of_mem _ (List.mem_append_right _ (h))
  subst hsz
  have hD := hD0.self (sz := s.heap.size)
  generalize hAe : va_A [] s.heap.size = A at hD ⊢
  have hA : ∀ q : Nat, s.heap.size ≤ q → A q := fun q h => by rw [← hAe]; exact Or.inr h
  have hS : va_S A s.heap s.heap [] := va_S.rf
  have hl := lv_entry ([.int 6]) (n := 2) (Nat.le_of_ble_eq_true rfl)
  rw [lg_entry_eq]
  generalize (lg_sl ([.int 6]) ++ List.replicate (2 - (lg_sl ([.int 6])).length) Slot.unset).toArray = ls at hl ⊢
  have hl : lv_has ls 2 [(0, .int 6)] := hl
  refine va_new (ci := 12) (fs := [.int 0, .null, .int 0, .null, .null, .int 0, .int 0, .int 0, .null, .null, .null, .null, .null, .null, .null, .null, .int 0, .int 0, .int 0]) (C := RX10) (T := TX10) (N := 19) hx hb hts hinX10 tyX10 tyX10_ok hown (hts (.classLink RX10 10 RX10) (by decide +kernel)) (hts (.instantiable RX10 19) (by decide +kernel)) (hts (.initialized RX10) (by decide +kernel)) hK hP hD hS hA rfl (fun j hj => by rcases (show j = 0 ∨ j = 1 ∨ j = 2 ∨ j = 3 ∨ j = 4 ∨ j = 5 ∨ j = 6 ∨ j = 7 ∨ j = 8 ∨ j = 9 ∨ j = 10 ∨ j = 11 ∨ j = 12 ∨ j = 13 ∨ j = 14 ∨ j = 15 ∨ j = 16 ∨ j = 17 ∨ j = 18 by omega) with rfl | rfl | rfl | rfl | rfl | rfl | rfl | rfl | rfl | rfl | rfl | rfl | rfl | rfl | rfl | rfl | rfl | rfl | rfl <;> rfl) (Nat.le_of_ble_eq_true rfl) (Nat.le_of_ble_eq_true rfl) dX10_make_0 (fun q149 H hP hD hS => ?_)
  have hP : va_P (dC, dI) vwCl [(q149, .inr (12, [.int 0, .null, .int 0, .null, .null, .int 0, .int 0, .int 0, .null, .null, .null, .null, .null, .null, .null, .null, .int 0, .int 0, .int 0]))] H := hP
  have hD : va_D A [(q149, .inr (12, [.int 0, .null, .int 0, .null, .null, .int 0, .int 0, .int 0, .null, .null, .null, .null, .null, .null, .null, .null, .int 0, .int 0, .int 0]))] := hD
  refine W.widen (k := 1) (n := 19) (Nat.le_of_ble_eq_true rfl) (Nat.le_of_ble_eq_true rfl) ?_
  refine lv_dup hx hb dX10_make_3 rfl ?_
  refine lv_iload_n hx hb dX10_make_4 rfl (lv_at hl 0 rfl) ?_
  refine va_new (ci := 13) (fs := [.int 0, .long 0, .null, .null, .int 0, .int 0, .null, .null, .null, .null, .null]) (C := RX11) (T := TX11) (N := 11) hx hb hts hinX11 tyX11 tyX11_ok hown (hts (.classLink RX10 19 RX11) (by decide +kernel)) (hts (.instantiable RX11 11) (by decide +kernel)) (hts (.initialized RX11) (by decide +kernel)) hK hP hD hS hA rfl (fun j hj => by rcases (show j = 0 ∨ j = 1 ∨ j = 2 ∨ j = 3 ∨ j = 4 ∨ j = 5 ∨ j = 6 ∨ j = 7 ∨ j = 8 ∨ j = 9 ∨ j = 10 by omega) with rfl | rfl | rfl | rfl | rfl | rfl | rfl | rfl | rfl | rfl | rfl <;> rfl) (Nat.le_of_ble_eq_true rfl) (Nat.le_of_ble_eq_true rfl) dX10_make_5 (fun q150 H hP hD hS => ?_)
  have hP : va_P (dC, dI) vwCl [(q149, .inr (12, [.int 0, .null, .int 0, .null, .null, .int 0, .int 0, .int 0, .null, .null, .null, .null, .null, .null, .null, .null, .int 0, .int 0, .int 0])), (q150, .inr (13, [.int 0, .long 0, .null, .null, .int 0, .int 0, .null, .null, .null, .null, .null]))] H := hP
  have hD : va_D A [(q149, .inr (12, [.int 0, .null, .int 0, .null, .null, .int 0, .int 0, .int 0, .null, .null, .null, .null, .null, .null, .null, .null, .int 0, .int 0, .int 0])), (q150, .inr (13, [.int 0, .long 0, .null, .null, .int 0, .int 0, .null, .null, .null, .null, .null]))] := hD
  refine W.widen (k := 2) (n := 30) (Nat.le_of_ble_eq_true rfl) (Nat.le_of_ble_eq_true rfl) ?_
  refine lv_dup hx hb dX10_make_8 rfl ?_
  refine lv_iload_n hx hb dX10_make_9 rfl (lv_at hl 0 rfl) ?_
  have hPc := hP.sub (ws' := [(q150, .inr (13, [.int 0, .long 0, .null, .null, .int 0, .int 0, .null, .null, .null, .null, .null]))]) [1] rfl
  have hDc := hD.sub (ws' := [(q150, .inr (13, [.int 0, .long 0, .null, .null, .int 0, .int 0, .null, .null, .null, .null, .null]))]) [1] (by decide) rfl
  have hKc := hK.sub (tys' := []) [] rfl
  have hFc := va_free (wc := [(q150, .inr (13, [.int 0, .long 0, .null, .null, .int 0, .int 0, .null, .null, .null, .null, .null]))]) hD hS hA [1] rfl
  refine va_callv (va_runI (As := [.int 6]) (rest := [.ref q150, .int 6, .ref q149, .ref q149]) ⟨hx, hb, hml, hown, hts⟩ (m_X11_init_4 l dC dI H.size q150 (.long 0) .null .null (.int 0) (.int 0) .null .null .null .null .null) (cwI 1 hts gX10_make_X11_init rfl rfl rfl (hts (.initialized RX11) (by decide +kernel)) (hts (.methodLink RX10 21 yX11_init) (by decide +kernel)) (hts (.instanceMethod yX11_init) (by decide +kernel)) rfl (by decide +kernel) ⟨Nat.le_of_ble_eq_true rfl, Nat.le_of_ble_eq_true rfl⟩) ⟨(fun a U g mk q => by obtain ⟨q0, q1, qP, qK, qD⟩ := q; exact ⟨q0, q1, qP, va_K.moved (u := U) (U := U.calling g mk a) (Vm.Alike.refl U.vm) qK, qD⟩), (fun U hU hW => ⟨rfl, by rw [hU], by rw [hU]; exact hPc, va_K.moved hW.alike hKc, hDc.weaken (fun _ _ _ _ => trivial)⟩)⟩ rfl rfl hl.1 rfl (lv_room (Nat.le_of_ble_eq_true rfl)) dX10_make_10 ⟨Nat.le_of_ble_eq_true rfl, Nat.le_of_ble_eq_true rfl⟩) hS (fun q _ h => hFc q h) hFc (fun u t H1 locs ht hvm hw hB hz1 hk1 hS => ?_)
  obtain ⟨hP1, hK1, hD1⟩ := hB
  rw [ht] at hP1
  have hK1 := va_K.moved hvm.symm hK1
  obtain ⟨hP, hD⟩ := va_join (wr := [(q149, .inr (12, [.int 0, .null, .int 0, .null, .null, .int 0, .int 0, .int 0, .null, .null, .null, .null, .null, .null, .null, .null, .int 0, .int 0, .int 0]))]) (w1 := [(q150, .inr (13, [.int 6, .long 0, .null, .null, .int 0, .int 0, .null, .null, .null, .null, .null]))]) hP hD [1] [0] rfl rfl (by decide) (by decide) hk1 hFc hP1 hD1
  generalize H1 = H at hP hS ⊢
  have hP : va_P (dC, dI) vwCl [(q149, .inr (12, [.int 0, .null, .int 0, .null, .null, .int 0, .int 0, .int 0, .null, .null, .null, .null, .null, .null, .null, .null, .int 0, .int 0, .int 0])), (q150, .inr (13, [.int 6, .long 0, .null, .null, .int 0, .int 0, .null, .null, .null, .null, .null]))] H := hP
  have hD : va_D A [(q149, .inr (12, [.int 0, .null, .int 0, .null, .null, .int 0, .int 0, .int 0, .null, .null, .null, .null, .null, .null, .null, .null, .int 0, .int 0, .int 0])), (q150, .inr (13, [.int 6, .long 0, .null, .null, .int 0, .int 0, .null, .null, .null, .null, .null]))] := hD
  refine W.widen (k := 2) (n := 30) (Nat.le_of_ble_eq_true rfl) (Nat.le_of_ble_eq_true rfl) ?_
  have hPc := hP.sub (ws' := [(q149, .inr (12, [.int 0, .null, .int 0, .null, .null, .int 0, .int 0, .int 0, .null, .null, .null, .null, .null, .null, .null, .null, .int 0, .int 0, .int 0]))]) [0] rfl
  have hDc := hD.sub (ws' := [(q149, .inr (12, [.int 0, .null, .int 0, .null, .null, .int 0, .int 0, .int 0, .null, .null, .null, .null, .null, .null, .null, .null, .int 0, .int 0, .int 0]))]) [0] (by decide) rfl
  have hKc := hK.sub (tys' := []) [] rfl
  have hFc := va_free (wc := [(q149, .inr (12, [.int 0, .null, .int 0, .null, .null, .int 0, .int 0, .int 0, .null, .null, .null, .null, .null, .null, .null, .null, .int 0, .int 0, .int 0]))]) hD hS hA [0] rfl
  refine va_callv (va_runI (As := [.int 6, .ref q150]) (rest := [.ref q149]) ⟨hx, hb, hml, hown, hts⟩ (m_X10_init_0 l dC dI H.size q149 q150 (.int 0) .null .null (.int 0) (.int 0) (.int 0) .null .null .null .null .null .null .null .null (.int 0) (.int 0) (.int 0)) (cwI 2 hts gX10_make_X10_init rfl rfl rfl (hts (.initialized RX10) (by decide +kernel)) (hts (.methodLink RX10 24 yX10_init) (by decide +kernel)) (hts (.instanceMethod yX10_init) (by decide +kernel)) rfl (by decide +kernel) ⟨Nat.le_of_ble_eq_true rfl, Nat.le_of_ble_eq_true rfl⟩) ⟨(fun a U g mk q => by obtain ⟨q0, q1, qP, qK, qD⟩ := q; exact ⟨q0, q1, qP, va_K.moved (u := U) (U := U.calling g mk a) (Vm.Alike.refl U.vm) qK, qD⟩), (fun U hU hW => ⟨rfl, by rw [hU], by rw [hU]; exact hPc, va_K.moved hW.alike hKc, hDc.weaken (fun _ _ _ _ => trivial)⟩)⟩ rfl rfl hl.1 rfl (lv_room (Nat.le_of_ble_eq_true rfl)) dX10_make_13 ⟨Nat.le_of_ble_eq_true rfl, Nat.le_of_ble_eq_true rfl⟩) hS (fun q _ h => hFc q h) hFc (fun u t H1 locs ht hvm hw hB hz1 hk1 hS => ?_)
  obtain ⟨hP1, hK1, hD1⟩ := hB
  rw [ht] at hP1
  have hK1 := va_K.moved hvm.symm hK1
  obtain ⟨hP, hD⟩ := va_join (wr := [(q150, .inr (13, [.int 6, .long 0, .null, .null, .int 0, .int 0, .null, .null, .null, .null, .null]))]) (w1 := [(q149, .inr (12, [.int 6, .ref q150, .int 0, .null, .null, .int 0, .int 0, .int 0, .null, .null, .null, .null, .null, .null, .null, .null, .int 0, .int 0, .int 0]))]) hP hD [0] [1] rfl rfl (by decide) (by decide) hk1 hFc hP1 hD1
  generalize H1 = H at hP hS ⊢
  have hP : va_P (dC, dI) vwCl [(q150, .inr (13, [.int 6, .long 0, .null, .null, .int 0, .int 0, .null, .null, .null, .null, .null])), (q149, .inr (12, [.int 6, .ref q150, .int 0, .null, .null, .int 0, .int 0, .int 0, .null, .null, .null, .null, .null, .null, .null, .null, .int 0, .int 0, .int 0]))] H := hP
  have hD : va_D A [(q150, .inr (13, [.int 6, .long 0, .null, .null, .int 0, .int 0, .null, .null, .null, .null, .null])), (q149, .inr (12, [.int 6, .ref q150, .int 0, .null, .null, .int 0, .int 0, .int 0, .null, .null, .null, .null, .null, .null, .null, .null, .int 0, .int 0, .int 0]))] := hD
  refine W.widen (k := 2) (n := 30) (Nat.le_of_ble_eq_true rfl) (Nat.le_of_ble_eq_true rfl) ?_
  refine lv_astore_n (lv' := [(1, .ref q149), (0, .int 6)]) hx hb dX10_make_16 rfl hl (by decide) rfl (fun ls hl => ?_)
  refine lv_aload_n hx hb dX10_make_17 rfl (lv_at hl 0 rfl) ?_
  refine va_get (D := (dC, dI)) (ci := 12) (v := .ref q150) (C := RX10) (T := TX10) (N := 19) hx hb hts hinX10 hown hK hP 1 rfl rfl 1 (by decide) (hts (.fieldLink RX10 15 "GoalHouse$Thing" "self" "LGoalHouse$Val;") (by decide +kernel)) (fun _ h9 => h9) rfl dX10_make_18 ?_
  refine lv_aload_n hx hb dX10_make_21 rfl (lv_at hl 0 rfl) ?_
  refine va_put (D := (dC, dI)) (ci := 13) (v := .ref q149) (ty := (.object "GoalHouse$Thing")) (C := RX11) (T := TX11) (N := 11) hx hb hts hinX11 tyX11 tyX11_ok nmX11 hown hK hP hD hS 0 rfl rfl 7 (by decide) (hts (.fieldLink RX10 27 "GoalHouse$Val" "thing" "LGoalHouse$Thing;") (by decide +kernel)) (fun _ h9 => h9) rfl (by decide +kernel) rfl rfl (Nat.le_of_ble_eq_true rfl) dX10_make_22 (fun H locs hP hD hS => ?_)
  have hP : va_P (dC, dI) vwCl [(q150, .inr (13, [.int 6, .long 0, .null, .null, .int 0, .int 0, .null, .ref q149, .null, .null, .null])), (q149, .inr (12, [.int 6, .ref q150, .int 0, .null, .null, .int 0, .int 0, .int 0, .null, .null, .null, .null, .null, .null, .null, .null, .int 0, .int 0, .int 0]))] H := hP
  have hD : va_D A [(q150, .inr (13, [.int 6, .long 0, .null, .null, .int 0, .int 0, .null, .ref q149, .null, .null, .null])), (q149, .inr (12, [.int 6, .ref q150, .int 0, .null, .null, .int 0, .int 0, .int 0, .null, .null, .null, .null, .null, .null, .null, .null, .int 0, .int 0, .int 0]))] := hD
  refine lv_aload_n hx hb dX10_make_25 rfl (lv_at hl 0 rfl) ?_
  have hP9 := hP.sub (ws' := [(q149, .inr (12, [.int 6, .ref q150, .int 0, .null, .null, .int 0, .int 0, .int 0, .null, .null, .null, .null, .null, .null, .null, .null, .int 0, .int 0, .int 0])), (q150, .inr (13, [.int 6, .long 0, .null, .null, .int 0, .int 0, .null, .ref q149, .null, .null, .null]))]) [1, 0] rfl
  have hD9 := hD.sub (ws' := [(q149, .inr (12, [.int 6, .ref q150, .int 0, .null, .null, .int 0, .int 0, .int 0, .null, .null, .null, .null, .null, .null, .null, .null, .int 0, .int 0, .int 0])), (q150, .inr (13, [.int 6, .long 0, .null, .null, .int 0, .int 0, .null, .ref q149, .null, .null, .null]))]) [1, 0] (by decide) rfl
  have hK9 := hK.sub (tys' := []) [] rfl
  exact W.aret (v := .ref q149) hx hb hr (Or.inl ⟨_, rfl⟩) (Or.inr ⟨_, rfl⟩) (fun t ht hW => ⟨⟨q150, q149, rfl, trivial, by rw [ht]; exact hP9, va_K.moved hW.alike hK9, hD9⟩, hS.F ht⟩) hS.2.2 dX10_make_26
