set_option maxHeartbeats 4000000 in
set_option maxRecDepth 100000 in
theorem m_X11_put_0 (l : Launch) (dC : Nat → ClassId) (dI : Nat → Nat → Nat) (sz : Nat) (h4 : Nat) (k5 : Nat) (v7 : Value) (v8 : Value) (v9 : Value) (v10 : Value) (v11 : Value) (v12 : Value) (h6 : Nat) (v13 : Value) (v14 : Value) (v15 : Value) (v16 : Value) (cA17 : ClassId) (f18 : Nat → Int64)  (hi_k5 : k5 ≤ 2147483647) (c1 : 0 ≤ (k5 / 64)) (c2 : (k5 / 64) < 2147483648) (c3 : (k5 / 64) < 4) (c4 : k5 / 64 < 4) (c5 : k5 / 64 < 2147483648) : Met l yX11_put wsX11_put ({ frames := 0, cells := 0, slots := 0, locals := 0 }) (va_Pc [.ref h4, .int (nI k5)] (fun U => U.heap.size = sz ∧ va_P (dC, dI) vwCl [(h4, .inr (13, [v7, v8, v9, v10, v11, v12, .ref h6, v13, v14, v15, v16])), (h6, .inl (cA17, 4, .inr (.inl f18)))] U.heap ∧ va_K (dC, dI) vwCl [(cA17, .long)] U ∧ va_D (fun _ => True) [(h4, .inr (13, [v7, v8, v9, v10, v11, v12, .ref h6, v13, v14, v15, v16])), (h6, .inl (cA17, 4, .inr (.inl f18)))])) (va_Qv (fun (_ : Unit) => True) (fun (u : Unit) t => match u with | () => va_P (dC, dI) vwCl [(h4, .inr (13, [v7, v8, v9, v10, v11, v12, .ref h6, v13, v14, v15, v16])), (h6, .inl (cA17, 4, .inr (.inl (vp_updL f18 (k5 / 64) ((f18 (k5 / 64)) ||| ((1 : Int64) <<< ((nI (k5 % 64)).toInt64 &&& 63)))))))] t.heap ∧ va_K (dC, dI) vwCl [(cA17, .long)] t ∧ va_D (va_A [(h4, .inr (13, [v7, v8, v9, v10, v11, v12, .ref h6, v13, v14, v15, v16])), (h6, .inl (cA17, 4, .inr (.inl f18)))] sz) [(h4, .inr (13, [v7, v8, v9, v10, v11, v12, .ref h6, v13, v14, v15, v16])), (h6, .inl (cA17, 4, .inr (.inl (vp_updL f18 (k5 / 64) ((f18 (k5 / 64)) ||| ((1 : Int64) <<< ((nI (k5 % 64)).toInt64 &&& 63)))))))]) (va_A [(h4, .inr (13, [v7, v8, v9, v10, v11, v12, .ref h6, v13, v14, v15, v16])), (h6, .inl (cA17, 4, .inr (.inl f18)))] sz)) 0 0 (va_A [(h4, .inr (13, [v7, v8, v9, v10, v11, v12, .ref h6, v13, v14, v15, v16])), (h6, .inl (cA17, 4, .inr (.inl f18)))] sz) := by
  refine Met.ofW (cc := cX11_put) (maxL := 3) (ret := none) (by decide) rfl ?_
  intro p e s m args below meth c s₁ B hml hv
  obtain ⟨rfl, hsz, hP, hK, hD0⟩ := hv
  have hx := B.exec
  have hb := B.bytes
  have hr := B.returns
  have hts := atoms_spec (ws := wsX11_put) B.pre
  have hown : s.vm.findClass RX11 = some m.cls := findClass_of_methodNamed B.named
  have hlocks := B.notSynchronized
  have hinX11 : ∀ w ∈ wsX110, w ∈ wsX11_put := fun w h => List.mem_cons_of_mem _ (List.mem_append_right _ (h))
  subst hsz
  have hD := hD0.self (sz := s.heap.size)
  generalize hAe : va_A [(h4, .inr (13, [v7, v8, v9, v10, v11, v12, .ref h6, v13, v14, v15, v16])), (h6, .inl (cA17, 4, .inr (.inl f18)))] s.heap.size = A at hD ⊢
  have hA : ∀ q : Nat, s.heap.size ≤ q → A q := fun q h => by rw [← hAe]; exact Or.inr h
  have hS : va_S A s.heap s.heap [] := va_S.rf
  have hl := lv_entry ([.ref h4, .int (nI k5)]) (n := 3) (Nat.le_of_ble_eq_true rfl)
  rw [lg_entry_eq]
  generalize (lg_sl ([.ref h4, .int (nI k5)]) ++ List.replicate (3 - (lg_sl ([.ref h4, .int (nI k5)])).length) Slot.unset).toArray = ls at hl ⊢
  have hl : lv_has ls 3 [(0, .ref h4), (1, .int (nI k5))] := hl
  refine lv_iload_n hx hb dX11_put_0 rfl (lv_at hl 1 rfl) ?_
  refine lv_bipush (v := 6) hx hb dX11_put_1 (by decide) ?_
  refine lv_ishr hx hb dX11_put_3 ?_
  refine lv_topi (fun z19 ez19 => ?_)
  have ez19 : z19 = nI (k5 / 64) := ez19.trans (pk_shrN (by omega) (6 &&& 31) 6 (by decide))
  subst ez19
  refine lv_istore_n (lv' := [(2, .int (nI (k5 / 64))), (0, .ref h4), (1, .int (nI k5))]) hx hb dX11_put_4 rfl hl (by decide) rfl (fun ls hl => ?_)
  refine lv_aload_n hx hb dX11_put_5 rfl (lv_at hl 1 rfl) ?_
  refine va_get (D := (dC, dI)) (ci := 13) (v := .ref h6) (C := RX11) (T := TX11) (N := 11) hx hb hts hinX11 hown hK hP 0 rfl rfl 6 (by decide) (hts (.fieldLink RX11 34 "GoalHouse$Val" "bits" "[J") (by decide +kernel)) (fun _ h9 => h9) rfl dX11_put_6 ?_
  refine lv_ifnull hx hb dX11_put_9 ?_
  refine lv_iload_n hx hb dX11_put_12 rfl (lv_at hl 0 rfl) ?_
  refine lv_if_lt (tgt := 40) hx hb dX11_put_13 (by decide) (fun cx => absurd cx (nI_nlt (a := (k5 / 64)) (b := 0) c1 c2)) (fun _ => ?_)
  refine lv_iload_n hx hb dX11_put_16 rfl (lv_at hl 0 rfl) ?_
  refine lv_aload_n hx hb dX11_put_17 rfl (lv_at hl 1 rfl) ?_
  refine va_get (D := (dC, dI)) (ci := 13) (v := .ref h6) (C := RX11) (T := TX11) (N := 11) hx hb hts hinX11 hown hK hP 0 rfl rfl 6 (by decide) (hts (.fieldLink RX11 34 "GoalHouse$Val" "bits" "[J") (by decide +kernel)) (fun _ h9 => h9) rfl dX11_put_18 ?_
  refine va_alen (v := 4) hx hb hK hP 1 0 rfl rfl rfl dX11_put_21 ?_
  refine lv_icmp_ge (tgt := 40) hx hb dX11_put_22 (by decide) (fun cx => absurd cx (nI_ge (a := (k5 / 64)) (b := 4) c3 (by decide))) (fun _ => ?_)
  refine lv_aload_n hx hb dX11_put_25 rfl (lv_at hl 1 rfl) ?_
  refine va_get (D := (dC, dI)) (ci := 13) (v := .ref h6) (C := RX11) (T := TX11) (N := 11) hx hb hts hinX11 hown hK hP 0 rfl rfl 6 (by decide) (hts (.fieldLink RX11 34 "GoalHouse$Val" "bits" "[J") (by decide +kernel)) (fun _ h9 => h9) rfl dX11_put_26 ?_
  refine lv_iload_n hx hb dX11_put_29 rfl (lv_at hl 0 rfl) ?_
  refine lv_dup2_11 hx hb dX11_put_30 rfl rfl ?_
  refine va_lald hx hb hK hP 1 0 rfl rfl (vp_in_nI c4 (by decide)) dX11_put_31 ?_
  refine lv_topl (fun z20 ez20 => ?_)
  have ez20 : z20 = f18 (k5 / 64) := ez20.trans (by rw [nI_clamp (n := (k5 / 64)) c5])
  subst ez20
  refine lv_lconst (v := 1) hx hb dX11_put_32 (by decide) ?_
  refine lv_iload_n hx hb dX11_put_33 rfl (lv_at hl 2 rfl) ?_
  refine lv_bipush (v := 63) hx hb dX11_put_34 (by decide) ?_
  refine lv_iand hx hb dX11_put_36 ?_
  refine lv_topi (fun z21 ez21 => ?_)
  have ez21 : z21 = nI (k5 % 64) := ez21.trans (pk_andN (m := 63) (by omega) 6 (by decide))
  subst ez21
  refine lv_lshl (v := ((1 : Int64) <<< ((nI (k5 % 64)).toInt64 &&& 63))) hx hb dX11_put_37 rfl ?_
  refine lv_lor hx hb dX11_put_38 ?_
  refine va_last (x := ((f18 (k5 / 64)) ||| ((1 : Int64) <<< ((nI (k5 % 64)).toInt64 &&& 63)))) hx hb hK hP hD hS 1 0 rfl rfl (vp_in_nI c4 (by decide)) dX11_put_39 (fun H locs hP hD hS => ?_)
  rw [nI_clamp (n := (k5 / 64)) c5] at hP hD
  have hP : va_P (dC, dI) vwCl [(h4, .inr (13, [v7, v8, v9, v10, v11, v12, .ref h6, v13, v14, v15, v16])), (h6, .inl (cA17, 4, .inr (.inl (vp_updL f18 (k5 / 64) ((f18 (k5 / 64)) ||| ((1 : Int64) <<< ((nI (k5 % 64)).toInt64 &&& 63)))))))] H := hP
  have hD : va_D A [(h4, .inr (13, [v7, v8, v9, v10, v11, v12, .ref h6, v13, v14, v15, v16])), (h6, .inl (cA17, 4, .inr (.inl (vp_updL f18 (k5 / 64) ((f18 (k5 / 64)) ||| ((1 : Int64) <<< ((nI (k5 % 64)).toInt64 &&& 63)))))))] := hD
  have hP9 := hP.sub (ws' := [(h4, .inr (13, [v7, v8, v9, v10, v11, v12, .ref h6, v13, v14, v15, v16])), (h6, .inl (cA17, 4, .inr (.inl (vp_updL f18 (k5 / 64) ((f18 (k5 / 64)) ||| ((1 : Int64) <<< ((nI (k5 % 64)).toInt64 &&& 63)))))))]) [0, 1] rfl
  have hD9 := hD.sub (ws' := [(h4, .inr (13, [v7, v8, v9, v10, v11, v12, .ref h6, v13, v14, v15, v16])), (h6, .inl (cA17, 4, .inr (.inl (vp_updL f18 (k5 / 64) ((f18 (k5 / 64)) ||| ((1 : Int64) <<< ((nI (k5 % 64)).toInt64 &&& 63)))))))]) [0, 1] (by decide) rfl
  have hK9 := hK.sub (tys' := [(cA17, .long)]) [0] rfl
  exact W.vret hx hb hr (fun t ht hW => ⟨⟨(), rfl, trivial, by rw [ht]; exact hP9, va_K.moved hW.alike hK9, hD9⟩, hS.F ht⟩) hS.2.2 dX11_put_40
set_option maxHeartbeats 4000000 in
set_option maxRecDepth 100000 in
theorem m_X11_init_0 (l : Launch) (dC : Nat → ClassId) (dI : Nat → Nat → Nat) (sz : Nat) (h237 : Nat) (v238 : Value) (v239 : Value) (v240 : Value) (v241 : Value) (v242 : Value) (v243 : Value) (v244 : Value) (v245 : Value) (v246 : Value) (v247 : Value)   : Met l yX11_init wsX11_init ({ frames := 1, cells := 0, slots := 0, locals := 12 }) (va_Pc [.ref h237, .int 3] (fun U => U.heap.size = sz ∧ va_P (dC, dI) vwCl [(h237, .inr (13, [.int 0, v238, v239, v240, v241, v242, v243, v244, v245, v246, v247]))] U.heap ∧ va_K (dC, dI) vwCl [] U ∧ va_D (fun _ => True) [(h237, .inr (13, [.int 0, v238, v239, v240, v241, v242, v243, v244, v245, v246, v247]))])) (va_Qv (fun (_ : Unit) => True) (fun (u : Unit) t => match u with | () => va_P (dC, dI) vwCl [(h237, .inr (13, [.int 3, v238, v239, v240, v241, v242, v243, v244, v245, v246, v247]))] t.heap ∧ va_K (dC, dI) vwCl [] t ∧ va_D (va_A [(h237, .inr (13, [.int 0, v238, v239, v240, v241, v242, v243, v244, v245, v246, v247]))] sz) [(h237, .inr (13, [.int 3, v238, v239, v240, v241, v242, v243, v244, v245, v246, v247]))]) (va_A [(h237, .inr (13, [.int 0, v238, v239, v240, v241, v242, v243, v244, v245, v246, v247]))] sz)) 0 0 (va_A [(h237, .inr (13, [.int 0, v238, v239, v240, v241, v242, v243, v244, v245, v246, v247]))] sz) := by
  refine Met.ofW (cc := cX11_init) (maxL := 2) (ret := none) (by decide) rfl ?_
  intro p e s m args below meth c s₁ B hml hv
  obtain ⟨rfl, hsz, hP, hK, hD0⟩ := hv
  have hx := B.exec
  have hb := B.bytes
  have hr := B.returns
  have hts := atoms_spec (ws := wsX11_init) B.pre
  have hown : s.vm.findClass RX11 = some m.cls := findClass_of_methodNamed B.named
  have hlocks := B.notSynchronized
  have hin : meth.name = "<init>" := (name_of_methodNamed B.named B.method).1
  have hinX11 : ∀ w ∈ wsX110, w ∈ wsX11_init := fun w h => List.mem_cons_of_mem _ (List.mem_append_right _ (h))
  subst hsz
  have hD := hD0.self (sz := s.heap.size)
  generalize hAe : va_A [(h237, .inr (13, [.int 0, v238, v239, v240, v241, v242, v243, v244, v245, v246, v247]))] s.heap.size = A at hD ⊢
  have hA : ∀ q : Nat, s.heap.size ≤ q → A q := fun q h => by rw [← hAe]; exact Or.inr h
  have hS : va_S A s.heap s.heap [] := va_S.rf
  have hl := lv_entry ([.ref h237, .int 3]) (n := 2) (Nat.le_of_ble_eq_true rfl)
  rw [lg_entry_eq]
  generalize (lg_sl ([.ref h237, .int 3]) ++ List.replicate (2 - (lg_sl ([.ref h237, .int 3])).length) Slot.unset).toArray = ls at hl ⊢
  have hl : lv_has ls 2 [(0, .ref h237), (1, .int 3)] := hl
  refine lv_aload_n hx hb dX11_init_0 rfl (lv_at hl 0 rfl) ?_
  refine W.objInit hx hb hown (hts (.methodLink RX11 1 objectInit) (by decide +kernel)) (hts (.instanceMethod objectInit) (by decide +kernel)) (hts (.code objectInit ⟨#[0xb1]⟩ 1 none) (by decide +kernel)) rfl (by rw [hml]; exact hl.1) rfl dX11_init_1 (Nat.le_of_ble_eq_true rfl) (Nat.le_of_ble_eq_true rfl) ?_
  refine W.eq (g2 := F0 m 4 ls []) rfl ?_
  refine lv_aload_n hx hb dX11_init_4 rfl (lv_at hl 0 rfl) ?_
  refine lv_iload_n hx hb dX11_init_5 rfl (lv_at hl 1 rfl) ?_
  refine va_putF (D := (dC, dI)) (ci := 13) (v := .int 3) (ty := .int) (C := RX11) (T := TX11) (N := 11) hx hb hts hinX11 tyX11 tyX11_ok nmX11 hown hK hP hD hS 0 rfl rfl 0 (by decide) (hts (.fieldLink RX11 7 "GoalHouse$Val" "kind" "I") (by decide +kernel)) (fun _ h9 => h9) rfl hin rfl (by decide +kernel) rfl rfl (Nat.le_of_ble_eq_true rfl) dX11_init_6 (fun H locs hP hD hS => ?_)
  have hP : va_P (dC, dI) vwCl [(h237, .inr (13, [.int 3, v238, v239, v240, v241, v242, v243, v244, v245, v246, v247]))] H := hP
  have hD : va_D A [(h237, .inr (13, [.int 3, v238, v239, v240, v241, v242, v243, v244, v245, v246, v247]))] := hD
  have hP9 := hP.sub (ws' := [(h237, .inr (13, [.int 3, v238, v239, v240, v241, v242, v243, v244, v245, v246, v247]))]) [0] rfl
  have hD9 := hD.sub (ws' := [(h237, .inr (13, [.int 3, v238, v239, v240, v241, v242, v243, v244, v245, v246, v247]))]) [0] (by decide) rfl
  have hK9 := hK.sub (tys' := []) [] rfl
  exact W.vret hx hb hr (fun t ht hW => ⟨⟨(), rfl, trivial, by rw [ht]; exact hP9, va_K.moved hW.alike hK9, hD9⟩, hS.F ht⟩) hS.2.2 dX11_init_9
set_option maxHeartbeats 4000000 in
set_option maxRecDepth 100000 in
theorem m_X3_emptySet_0 (l : Launch) (dC : Nat → ClassId) (dI : Nat → Nat → Nat) (sz : Nat)    : Met l yX3_emptySet wsX3_emptySet ({ frames := 2, cells := 2, slots := 15, locals := 33 }) (va_Pc [] (fun U => U.heap.size = sz ∧ va_P (dC, dI) vwCl [] U.heap ∧ va_K (dC, dI) vwCl [] U ∧ va_D (fun _ => True) [])) (va_Qr (fun (_ : Nat × ClassId) => True) (fun (u : Nat × ClassId) (q236 : Nat) t => match u with | (q248, cA249) => va_P (dC, dI) vwCl [(q236, .inr (13, [.int 3, .long 0, .null, .null, .int 0, .int 0, .ref q248, .null, .null, .null, .null])), (q248, .inl (cA249, 4, .inr (.inl (fun _ => 0))))] t.heap ∧ va_K (dC, dI) vwCl [(cA249, .long)] t ∧ va_D (va_A [] sz) [(q236, .inr (13, [.int 3, .long 0, .null, .null, .int 0, .int 0, .ref q248, .null, .null, .null, .null])), (q248, .inl (cA249, 4, .inr (.inl (fun _ => 0))))]) (va_A [] sz)) 2 15 (va_A [] sz) := by
  refine Met.ofW (cc := cX3_emptySet) (maxL := 1) (ret := (some (.object "GoalHouse$Val"))) (by decide) rfl ?_
  intro p e s m args below meth c s₁ B hml hv
  obtain ⟨rfl, hsz, hP, hK, hD0⟩ := hv
  have hx := B.exec
  have hb := B.bytes
  have hr := B.returns
  have hts := atoms_spec (ws := wsX3_emptySet) B.pre
  have hown : s.vm.findClass RX3 = some m.cls := findClass_of_methodNamed B.named
  have hlocks := B.notSynchronized
  have hinX11 : ∀ w ∈ wsX110, w ∈ wsX3_emptySet := fun w h => List.mem_cons_of_mem _ (List.mem_append_right _ (h))
  subst hsz
  have hD := hD0.self (sz := s.heap.size)
  generalize hAe : va_A [] s.heap.size = A at hD ⊢
  have hA : ∀ q : Nat, s.heap.size ≤ q → A q := fun q h => by rw [← hAe]; exact Or.inr h
  have hS : va_S A s.heap s.heap [] := va_S.rf
  have hl := lv_entry ([]) (n := 1) (Nat.le_of_ble_eq_true rfl)
  rw [lg_entry_eq]
  generalize (lg_sl ([]) ++ List.replicate (1 - (lg_sl ([])).length) Slot.unset).toArray = ls at hl ⊢
  have hl : lv_has ls 1 [] := hl
  refine va_new (ci := 13) (fs := [.int 0, .long 0, .null, .null, .int 0, .int 0, .null, .null, .null, .null, .null]) (C := RX11) (T := TX11) (N := 11) hx hb hts hinX11 tyX11 tyX11_ok hown (hts (.classLink RX3 9 RX11) (by decide +kernel)) (hts (.instantiable RX11 11) (by decide +kernel)) (hts (.initialized RX11) (by decide +kernel)) hK hP hD hS hA rfl (fun j hj => by rcases (show j = 0 ∨ j = 1 ∨ j = 2 ∨ j = 3 ∨ j = 4 ∨ j = 5 ∨ j = 6 ∨ j = 7 ∨ j = 8 ∨ j = 9 ∨ j = 10 by omega) with rfl | rfl | rfl | rfl | rfl | rfl | rfl | rfl | rfl | rfl | rfl <;> rfl) (Nat.le_of_ble_eq_true rfl) (Nat.le_of_ble_eq_true rfl) dX3_emptySet_0 (fun q236 H hP hD hS => ?_)
  have hP : va_P (dC, dI) vwCl [(q236, .inr (13, [.int 0, .long 0, .null, .null, .int 0, .int 0, .null, .null, .null, .null, .null]))] H := hP
  have hD : va_D A [(q236, .inr (13, [.int 0, .long 0, .null, .null, .int 0, .int 0, .null, .null, .null, .null, .null]))] := hD
  refine W.widen (k := 1) (n := 11) (Nat.le_of_ble_eq_true rfl) (Nat.le_of_ble_eq_true rfl) ?_
  refine lv_dup hx hb dX3_emptySet_3 rfl ?_
  refine lv_iconst (v := 3) hx hb dX3_emptySet_4 (by decide) ?_
  have hPc := hP.sub (ws' := [(q236, .inr (13, [.int 0, .long 0, .null, .null, .int 0, .int 0, .null, .null, .null, .null, .null]))]) [0] rfl
  have hDc := hD.sub (ws' := [(q236, .inr (13, [.int 0, .long 0, .null, .null, .int 0, .int 0, .null, .null, .null, .null, .null]))]) [0] (by decide) rfl
  have hKc := hK.sub (tys' := []) [] rfl
  have hFc := va_free (wc := [(q236, .inr (13, [.int 0, .long 0, .null, .null, .int 0, .int 0, .null, .null, .null, .null, .null]))]) hD hS hA [0] rfl
  refine va_callv (va_runI (As := [.int 3]) (rest := [.ref q236]) ⟨hx, hb, hml, hown, hts⟩ (m_X11_init_0 l dC dI H.size q236 (.long 0) .null .null (.int 0) (.int 0) .null .null .null .null .null) (cwI 1 hts gX3_emptySet_X11_init rfl rfl rfl (hts (.initialized RX11) (by decide +kernel)) (hts (.methodLink RX3 11 yX11_init) (by decide +kernel)) (hts (.instanceMethod yX11_init) (by decide +kernel)) rfl (by decide +kernel) ⟨Nat.le_of_ble_eq_true rfl, Nat.le_of_ble_eq_true rfl⟩) ⟨(fun a U g mk q => by obtain ⟨q0, q1, qP, qK, qD⟩ := q; exact ⟨q0, q1, qP, va_K.moved (u := U) (U := U.calling g mk a) (Vm.Alike.refl U.vm) qK, qD⟩), (fun U hU hW => ⟨rfl, by rw [hU], by rw [hU]; exact hPc, va_K.moved hW.alike hKc, hDc.weaken (fun _ _ _ _ => trivial)⟩)⟩ rfl rfl hl.1 rfl (lv_room (Nat.le_of_ble_eq_true rfl)) dX3_emptySet_5 ⟨(Nat.le_of_ble_eq_true rfl), (Nat.le_of_ble_eq_true rfl)⟩) hS (fun q _ h => hFc q h) hFc (fun u t H1 locs ht hvm hw hB hz1 hk1 hS => ?_)
  obtain ⟨hP1, hK1, hD1⟩ := hB
  rw [ht] at hP1
  have hK1 := va_K.moved hvm.symm hK1
  obtain ⟨hP, hD⟩ := va_join (wr := []) (w1 := [(q236, .inr (13, [.int 3, .long 0, .null, .null, .int 0, .int 0, .null, .null, .null, .null, .null]))]) hP hD [0] [] rfl rfl (by decide) (by decide) hk1 hFc hP1 hD1
  generalize H1 = H at hP hS ⊢
  have hP : va_P (dC, dI) vwCl [(q236, .inr (13, [.int 3, .long 0, .null, .null, .int 0, .int 0, .null, .null, .null, .null, .null]))] H := hP
  have hD : va_D A [(q236, .inr (13, [.int 3, .long 0, .null, .null, .int 0, .int 0, .null, .null, .null, .null, .null]))] := hD
  refine W.widen (k := 1) (n := 11) (Nat.le_of_ble_eq_true rfl) (Nat.le_of_ble_eq_true rfl) ?_
  refine lv_astore_n (lv' := [(0, .ref q236)]) hx hb dX3_emptySet_8 rfl hl (by decide) rfl (fun ls hl => ?_)
  refine lv_aload_n hx hb dX3_emptySet_9 rfl (lv_at hl 0 rfl) ?_
  refine lv_iconst (v := 4) hx hb dX3_emptySet_10 (by decide) ?_
  refine va_newa (atype := .long) (a0 := (4, .inr (.inl (fun _ => 0)))) (N' := 4) hx hb (hts (.arrayClass .long) (by decide +kernel)) rfl hK hP hD hS hA (fun _ => rfl) (by decide) (by decide) (Nat.le_of_ble_eq_true rfl) (Nat.le_of_ble_eq_true rfl) (Nat.le_of_ble_eq_true rfl) dX3_emptySet_11 (fun q248 cA249 H hK hP hD hS => ?_)
  have hK : va_K (dC, dI) vwCl [(cA249, .long)] s := hK
  have hP : va_P (dC, dI) vwCl [(q236, .inr (13, [.int 3, .long 0, .null, .null, .int 0, .int 0, .null, .null, .null, .null, .null])), (q248, .inl (cA249, 4, .inr (.inl (fun _ => 0))))] H := hP
  have hD : va_D A [(q236, .inr (13, [.int 3, .long 0, .null, .null, .int 0, .int 0, .null, .null, .null, .null, .null])), (q248, .inl (cA249, 4, .inr (.inl (fun _ => 0))))] := hD
  refine W.widen (k := 2) (n := 15) (Nat.le_of_ble_eq_true rfl) (Nat.le_of_ble_eq_true rfl) ?_
  refine va_put (D := (dC, dI)) (ci := 13) (v := .ref q248) (ty := (.array .long)) (C := RX11) (T := TX11) (N := 11) hx hb hts hinX11 tyX11 tyX11_ok nmX11 hown hK hP hD hS 0 rfl rfl 6 (by decide) (hts (.fieldLink RX3 99 "GoalHouse$Val" "bits" "[J") (by decide +kernel)) (fun _ h9 => h9) rfl (by decide +kernel) rfl rfl (Nat.le_of_ble_eq_true rfl) dX3_emptySet_13 (fun H locs hP hD hS => ?_)
  have hP : va_P (dC, dI) vwCl [(q236, .inr (13, [.int 3, .long 0, .null, .null, .int 0, .int 0, .ref q248, .null, .null, .null, .null])), (q248, .inl (cA249, 4, .inr (.inl (fun _ => 0))))] H := hP
  have hD : va_D A [(q236, .inr (13, [.int 3, .long 0, .null, .null, .int 0, .int 0, .ref q248, .null, .null, .null, .null])), (q248, .inl (cA249, 4, .inr (.inl (fun _ => 0))))] := hD
  refine lv_aload_n hx hb dX3_emptySet_16 rfl (lv_at hl 0 rfl) ?_
  have hP9 := hP.sub (ws' := [(q236, .inr (13, [.int 3, .long 0, .null, .null, .int 0, .int 0, .ref q248, .null, .null, .null, .null])), (q248, .inl (cA249, 4, .inr (.inl (fun _ => 0))))]) [0, 1] rfl
  have hD9 := hD.sub (ws' := [(q236, .inr (13, [.int 3, .long 0, .null, .null, .int 0, .int 0, .ref q248, .null, .null, .null, .null])), (q248, .inl (cA249, 4, .inr (.inl (fun _ => 0))))]) [0, 1] (by decide) rfl
  have hK9 := hK.sub (tys' := [(cA249, .long)]) [0] rfl
  exact W.aret (v := .ref q236) hx hb hr (Or.inl ⟨_, rfl⟩) (Or.inr ⟨_, rfl⟩) (fun t ht hW => ⟨⟨(q248, cA249), q236, rfl, trivial, by rw [ht]; exact hP9, va_K.moved hW.alike hK9, hD9⟩, hS.F ht⟩) hS.2.2 dX3_emptySet_17
set_option maxHeartbeats 4000000 in
set_option maxRecDepth 100000 in
theorem m_X3_range_0 (l : Launch) (dC : Nat → ClassId) (dI : Nat → Nat → Nat) (sz : Nat)    : Met l yX3_range wsX3_range ({ frames := 3, cells := 2, slots := 15, locals := 53 }) (va_Pc [.int 65, .int 90, .int 97, .int 122] (fun U => U.heap.size = sz ∧ va_P (dC, dI) vwCl [] U.heap ∧ va_K (dC, dI) vwCl [] U ∧ va_D (fun _ => True) [])) (va_Qr (fun (_ : Nat × ClassId × (Nat → Int64)) => True) (fun (u : Nat × ClassId × (Nat → Int64)) (q252 : Nat) t => match u with | (q250, cA251, g462) => va_P (dC, dI) vwCl [(q252, .inr (13, [.int 3, .long 0, .null, .null, .int 0, .int 0, .ref q250, .null, .null, .null, .null])), (q250, .inl (cA251, 4, .inr (.inl g462)))] t.heap ∧ va_K (dC, dI) vwCl [(cA251, .long)] t ∧ va_D (va_A [] sz) [(q252, .inr (13, [.int 3, .long 0, .null, .null, .int 0, .int 0, .ref q250, .null, .null, .null, .null])), (q250, .inl (cA251, 4, .inr (.inl g462)))]) (va_A [] sz)) 2 15 (va_A [] sz) := by
  refine Met.ofW (cc := cX3_range) (maxL := 6) (ret := (some (.object "GoalHouse$Val"))) (by decide) rfl ?_
  intro p e s m args below meth c s₁ B hml hv
  obtain ⟨rfl, hsz, hP, hK, hD0⟩ := hv
  have hx := B.exec
  have hb := B.bytes
  have hr := B.returns
  have hts := atoms_spec (ws := wsX3_range) B.pre
  have hown : s.vm.findClass RX3 = some m.cls := findClass_of_methodNamed B.named
  have hlocks := B.notSynchronized
  subst hsz
  have hD := hD0.self (sz := s.heap.size)
  generalize hAe : va_A [] s.heap.size = A at hD ⊢
  have hA : ∀ q : Nat, s.heap.size ≤ q → A q := fun q h => by rw [← hAe]; exact Or.inr h
  have hS : va_S A s.heap s.heap [] := va_S.rf
  have hl := lv_entry ([.int 65, .int 90, .int 97, .int 122]) (n := 6) (Nat.le_of_ble_eq_true rfl)
  rw [lg_entry_eq]
  generalize (lg_sl ([.int 65, .int 90, .int 97, .int 122]) ++ List.replicate (6 - (lg_sl ([.int 65, .int 90, .int 97, .int 122])).length) Slot.unset).toArray = ls at hl ⊢
  have hl : lv_has ls 6 [(0, .int 65), (1, .int 90), (2, .int 97), (3, .int 122)] := hl
  have hPc := hP.sub (ws' := []) [] rfl
  have hDc := hD.sub (ws' := []) [] (by decide) rfl
  have hKc := hK.sub (tys' := []) [] rfl
  have hFc := va_free (wc := []) hD hS hA [] rfl
  refine va_callr (va_runS (As := []) (rest := []) ⟨hx, hb, hml, hown, hts⟩ (m_X3_emptySet_0 l dC dI s.heap.size ) (va_cwS 0 hts gX3_range_X3_emptySet rfl rfl rfl (by decide +kernel) ⟨Nat.le_of_ble_eq_true rfl, Nat.le_of_ble_eq_true rfl⟩) ⟨(fun a U g mk q => by obtain ⟨q0, q1, qP, qK, qD⟩ := q; exact ⟨q0, q1, qP, va_K.moved (u := U) (U := U.calling g mk a) (Vm.Alike.refl U.vm) qK, qD⟩), (fun U hU hW => ⟨rfl, by rw [hU], by rw [hU]; exact hPc, va_K.moved hW.alike hKc, hDc.weaken (fun _ _ _ _ => trivial)⟩)⟩ rfl rfl hl.1 rfl (lv_room (Nat.le_of_ble_eq_true rfl)) dX3_range_0 ⟨(Nat.le_of_ble_eq_true rfl), (Nat.le_of_ble_eq_true rfl)⟩) hS (fun q _ h => hFc q h) hFc (fun u ra t H1 locs ht hvm hw hB hz1 hk1 hS => ?_)
  obtain ⟨q250, cA251⟩ := u
  obtain ⟨q252, rfl⟩ : ∃ z, z = ra := ⟨_, rfl⟩
  obtain ⟨hP1, hK1, hD1⟩ := hB
  rw [ht] at hP1
  have hK1 := va_K.moved hvm.symm hK1
  obtain ⟨hP, hD⟩ := va_join (wr := []) (w1 := [(q252, .inr (13, [.int 3, .long 0, .null, .null, .int 0, .int 0, .ref q250, .null, .null, .null, .null])), (q250, .inl (cA251, 4, .inr (.inl (fun _ => 0))))]) hP hD [] [] rfl rfl (by decide) (by decide) hk1 hFc hP1 hD1
  have hK := hK.app hK1
  have hK : va_K (dC, dI) vwCl [(cA251, .long)] s := hK
  generalize H1 = H at hP hS ⊢
  have hP : va_P (dC, dI) vwCl [(q252, .inr (13, [.int 3, .long 0, .null, .null, .int 0, .int 0, .ref q250, .null, .null, .null, .null])), (q250, .inl (cA251, 4, .inr (.inl (fun _ => 0))))] H := hP
  have hD : va_D A [(q252, .inr (13, [.int 3, .long 0, .null, .null, .int 0, .int 0, .ref q250, .null, .null, .null, .null])), (q250, .inl (cA251, 4, .inr (.inl (fun _ => 0))))] := hD
  refine W.widen (k := 2) (n := 15) (Nat.le_of_ble_eq_true rfl) (Nat.le_of_ble_eq_true rfl) ?_
  refine lv_astore (lv' := [(4, .ref q252), (0, .int 65), (1, .int 90), (2, .int 97), (3, .int 122)]) hx hb dX3_range_3 hl (by decide) rfl (fun ls hl => ?_)
  refine lv_iconst (v := 0) hx hb dX3_range_5 (by decide) ?_
  refine lv_istore (lv' := [(5, .int 0), (4, .ref q252), (0, .int 65), (1, .int 90), (2, .int 97), (3, .int 122)]) hx hb dX3_range_6 hl (by decide) rfl (fun ls hl => ?_)
  refine lp_up (σ := (Nat → Int64)) (fun (k461 : Nat) (a : (Nat → Int64)) H locs ls => match a with | g462 => va_P (dC, dI) vwCl [(q252, .inr (13, [.int 3, .long 0, .null, .null, .int 0, .int 0, .ref q250, .null, .null, .null, .null])), (q250, .inl (cA251, 4, .inr (.inl g462)))] H ∧ va_D A [(q252, .inr (13, [.int 3, .long 0, .null, .null, .int 0, .int 0, .ref q250, .null, .null, .null, .null])), (q250, .inl (cA251, 4, .inr (.inl g462)))] ∧ va_S A s.heap H locs ∧ lv_has ls 6 [(5, .int (nI k461)), (4, .ref q252), (0, .int 65), (1, .int 90), (2, .int 97), (3, .int 122)]) (fun _ => 2) (fun _ => 15) (hi := 256) ?_ ?_ (k := 0) (by decide) (a := (fun _ => 0)) ⟨hP, hD, hS, lv_sub hl [0, 1, 2, 3, 4, 5] rfl⟩
  · intro k461 a H locs ls hk hI ih
    obtain ⟨g462, rfl⟩ : ∃ z, z = a := ⟨_, rfl⟩
    obtain ⟨hP, hD, hS, hl⟩ := hI
    refine W.widen (k := 2 + 0) (n := 15 + 0) (by omega) (by omega) ?_
    refine lv_iload hx hb dX3_range_8 (lv_at hl 0 rfl) ?_
    refine lv_sipush (v := 256) hx hb dX3_range_10 (by decide) ?_
    refine lv_icmp_ge (tgt := 53) hx hb dX3_range_13 (by decide) (fun cx => absurd cx (nI_ge (a := k461) (b := 256) (by omega) (by decide))) (fun _ => ?_)
    refine lv_iload hx hb dX3_range_16 (lv_at hl 0 rfl) ?_
    refine lv_iload_n hx hb dX3_range_18 rfl (lv_at hl 2 rfl) ?_
    refine lv_icmp_lt (tgt := 28) hx hb dX3_range_19 (by decide) (fun cs463 => ?_) (fun cs463 => ?_)
    · refine lv_iload hx hb dX3_range_28 (lv_at hl 0 rfl) ?_
      refine lv_iload_n hx hb dX3_range_30 rfl (lv_at hl 4 rfl) ?_
      refine lv_icmp_lt (tgt := 47) hx hb dX3_range_31 (by decide) (fun cs464 => ?_) (fun cs464 => ?_)
      · refine lv_iinc (v := (nI (k461 + 1))) (lv' := [(5, .int (nI (k461 + 1))), (4, .ref q252), (0, .int 65), (1, .int 90), (2, .int 97), (3, .int 122)]) hx hb dX3_range_47 hl (k := 0) rfl (nI_1 k461) (by decide) rfl (fun ls hl => ?_)
        refine lv_goto (tgt := 8) hx hb dX3_range_50 (by decide) ?_
        refine W.widen (k := 2 + 0) (n := 15 + 0) (by omega) (by omega) ?_
        exact ih g462 _ _ _ ⟨hP.sub [0, 1] rfl, hD.sub [0, 1] (by decide) rfl, hS, lv_sub hl [0, 1, 2, 3, 4, 5] rfl⟩
      · refine lv_iload hx hb dX3_range_34 (lv_at hl 0 rfl) ?_
        refine lv_iload_n hx hb dX3_range_36 rfl (lv_at hl 5 rfl) ?_
        refine lv_icmp_gt (tgt := 47) hx hb dX3_range_37 (by decide) (fun cs465 => ?_) (fun cs465 => ?_)
        · refine lv_iinc (v := (nI (k461 + 1))) (lv' := [(5, .int (nI (k461 + 1))), (4, .ref q252), (0, .int 65), (1, .int 90), (2, .int 97), (3, .int 122)]) hx hb dX3_range_47 hl (k := 0) rfl (nI_1 k461) (by decide) rfl (fun ls hl => ?_)
          refine lv_goto (tgt := 8) hx hb dX3_range_50 (by decide) ?_
          refine W.widen (k := 2 + 0) (n := 15 + 0) (by omega) (by omega) ?_
          exact ih g462 _ _ _ ⟨hP.sub [0, 1] rfl, hD.sub [0, 1] (by decide) rfl, hS, lv_sub hl [0, 1, 2, 3, 4, 5] rfl⟩
        · refine lv_aload hx hb dX3_range_40 (lv_at hl 1 rfl) ?_
          refine lv_iload hx hb dX3_range_42 (lv_at hl 0 rfl) ?_
          have hPc := hP.sub (ws' := [(q252, .inr (13, [.int 3, .long 0, .null, .null, .int 0, .int 0, .ref q250, .null, .null, .null, .null])), (q250, .inl (cA251, 4, .inr (.inl g462)))]) [0, 1] rfl
          have hDc := hD.sub (ws' := [(q252, .inr (13, [.int 3, .long 0, .null, .null, .int 0, .int 0, .ref q250, .null, .null, .null, .null])), (q250, .inl (cA251, 4, .inr (.inl g462)))]) [0, 1] (by decide) rfl
          have hKc := hK.sub (tys' := [(cA251, .long)]) [0] rfl
          have hFc := va_free (wc := [(q252, .inr (13, [.int 3, .long 0, .null, .null, .int 0, .int 0, .ref q250, .null, .null, .null, .null])), (q250, .inl (cA251, 4, .inr (.inl g462)))]) hD hS hA [0, 1] rfl
          refine va_callv (va_runV (As := [.int (nI k461)]) (rest := []) ⟨hx, hb, hml, hown, hts⟩ (m_X11_put_0 l dC dI H.size q252 k461 (.int 3) (.long 0) .null .null (.int 0) (.int 0) q250 .null .null .null .null cA251 g462 (by omega) (by omega) (by omega) (by omega) (by omega) (by omega)) (cwV 1 hts gX3_range_X11_put rfl rfl rfl (by decide +kernel) ⟨Nat.le_of_ble_eq_true rfl, Nat.le_of_ble_eq_true rfl⟩) ⟨(fun a U g mk q => by obtain ⟨q0, q1, qP, qK, qD⟩ := q; exact ⟨q0, q1, qP, va_K.moved (u := U) (U := U.calling g mk a) (Vm.Alike.refl U.vm) qK, qD⟩), va_recv hK hP (ci := 13) (q0 := 0) rfl rfl, (fun U hU hW => ⟨rfl, by rw [hU], by rw [hU]; exact hPc, va_K.moved hW.alike hKc, hDc.weaken (fun _ _ _ _ => trivial)⟩)⟩ rfl rfl hl.1 rfl (lv_room (Nat.le_of_ble_eq_true rfl)) dX3_range_44 ⟨(by show _ ≤ 2; omega), (by show _ ≤ 15; omega)⟩) hS (fun q _ h => hFc q h) hFc (fun u t H1 locs ht hvm hw hB hz1 hk1 hS => ?_)
          obtain ⟨hP1, hK1, hD1⟩ := hB
          rw [ht] at hP1
          have hK1 := va_K.moved hvm.symm hK1
          obtain ⟨hP, hD⟩ := va_join (wr := []) (w1 := [(q252, .inr (13, [.int 3, .long 0, .null, .null, .int 0, .int 0, .ref q250, .null, .null, .null, .null])), (q250, .inl (cA251, 4, .inr (.inl (vp_updL g462 (k461 / 64) ((g462 (k461 / 64)) ||| ((1 : Int64) <<< ((nI (k461 % 64)).toInt64 &&& 63)))))))]) hP hD [0, 1] [] rfl rfl (by decide) (by decide) hk1 hFc hP1 hD1
          generalize H1 = H at hP hS ⊢
          have hP : va_P (dC, dI) vwCl [(q252, .inr (13, [.int 3, .long 0, .null, .null, .int 0, .int 0, .ref q250, .null, .null, .null, .null])), (q250, .inl (cA251, 4, .inr (.inl (vp_updL g462 (k461 / 64) ((g462 (k461 / 64)) ||| ((1 : Int64) <<< ((nI (k461 % 64)).toInt64 &&& 63)))))))] H := hP
          have hD : va_D A [(q252, .inr (13, [.int 3, .long 0, .null, .null, .int 0, .int 0, .ref q250, .null, .null, .null, .null])), (q250, .inl (cA251, 4, .inr (.inl (vp_updL g462 (k461 / 64) ((g462 (k461 / 64)) ||| ((1 : Int64) <<< ((nI (k461 % 64)).toInt64 &&& 63)))))))] := hD
          refine W.widen (k := 2 + 0) (n := 15 + 0) (by omega) (by omega) ?_
          refine lv_iinc (v := (nI (k461 + 1))) (lv' := [(5, .int (nI (k461 + 1))), (4, .ref q252), (0, .int 65), (1, .int 90), (2, .int 97), (3, .int 122)]) hx hb dX3_range_47 hl (k := 0) rfl (nI_1 k461) (by decide) rfl (fun ls hl => ?_)
          refine lv_goto (tgt := 8) hx hb dX3_range_50 (by decide) ?_
          refine W.widen (k := 2 + 0) (n := 15 + 0) (by omega) (by omega) ?_
          exact ih (vp_updL g462 (k461 / 64) ((g462 (k461 / 64)) ||| ((1 : Int64) <<< ((nI (k461 % 64)).toInt64 &&& 63)))) _ _ _ ⟨hP.sub [0, 1] rfl, hD.sub [0, 1] (by decide) rfl, hS, lv_sub hl [0, 1, 2, 3, 4, 5] rfl⟩
    · refine lv_iload hx hb dX3_range_22 (lv_at hl 0 rfl) ?_
      refine lv_iload_n hx hb dX3_range_24 rfl (lv_at hl 3 rfl) ?_
      refine lv_icmp_le (tgt := 40) hx hb dX3_range_25 (by decide) (fun cs484 => ?_) (fun cs484 => ?_)
      · refine lv_aload hx hb dX3_range_40 (lv_at hl 1 rfl) ?_
        refine lv_iload hx hb dX3_range_42 (lv_at hl 0 rfl) ?_
        have hPc := hP.sub (ws' := [(q252, .inr (13, [.int 3, .long 0, .null, .null, .int 0, .int 0, .ref q250, .null, .null, .null, .null])), (q250, .inl (cA251, 4, .inr (.inl g462)))]) [0, 1] rfl
        have hDc := hD.sub (ws' := [(q252, .inr (13, [.int 3, .long 0, .null, .null, .int 0, .int 0, .ref q250, .null, .null, .null, .null])), (q250, .inl (cA251, 4, .inr (.inl g462)))]) [0, 1] (by decide) rfl
        have hKc := hK.sub (tys' := [(cA251, .long)]) [0] rfl
        have hFc := va_free (wc := [(q252, .inr (13, [.int 3, .long 0, .null, .null, .int 0, .int 0, .ref q250, .null, .null, .null, .null])), (q250, .inl (cA251, 4, .inr (.inl g462)))]) hD hS hA [0, 1] rfl
        refine va_callv (va_runV (As := [.int (nI k461)]) (rest := []) ⟨hx, hb, hml, hown, hts⟩ (m_X11_put_0 l dC dI H.size q252 k461 (.int 3) (.long 0) .null .null (.int 0) (.int 0) q250 .null .null .null .null cA251 g462 (by omega) (by omega) (by omega) (by omega) (by omega) (by omega)) (cwV 1 hts gX3_range_X11_put rfl rfl rfl (by decide +kernel) ⟨Nat.le_of_ble_eq_true rfl, Nat.le_of_ble_eq_true rfl⟩) ⟨(fun a U g mk q => by obtain ⟨q0, q1, qP, qK, qD⟩ := q; exact ⟨q0, q1, qP, va_K.moved (u := U) (U := U.calling g mk a) (Vm.Alike.refl U.vm) qK, qD⟩), va_recv hK hP (ci := 13) (q0 := 0) rfl rfl, (fun U hU hW => ⟨rfl, by rw [hU], by rw [hU]; exact hPc, va_K.moved hW.alike hKc, hDc.weaken (fun _ _ _ _ => trivial)⟩)⟩ rfl rfl hl.1 rfl (lv_room (Nat.le_of_ble_eq_true rfl)) dX3_range_44 ⟨(by show _ ≤ 2; omega), (by show _ ≤ 15; omega)⟩) hS (fun q _ h => hFc q h) hFc (fun u t H1 locs ht hvm hw hB hz1 hk1 hS => ?_)
        obtain ⟨hP1, hK1, hD1⟩ := hB
        rw [ht] at hP1
        have hK1 := va_K.moved hvm.symm hK1
        obtain ⟨hP, hD⟩ := va_join (wr := []) (w1 := [(q252, .inr (13, [.int 3, .long 0, .null, .null, .int 0, .int 0, .ref q250, .null, .null, .null, .null])), (q250, .inl (cA251, 4, .inr (.inl (vp_updL g462 (k461 / 64) ((g462 (k461 / 64)) ||| ((1 : Int64) <<< ((nI (k461 % 64)).toInt64 &&& 63)))))))]) hP hD [0, 1] [] rfl rfl (by decide) (by decide) hk1 hFc hP1 hD1
        generalize H1 = H at hP hS ⊢
        have hP : va_P (dC, dI) vwCl [(q252, .inr (13, [.int 3, .long 0, .null, .null, .int 0, .int 0, .ref q250, .null, .null, .null, .null])), (q250, .inl (cA251, 4, .inr (.inl (vp_updL g462 (k461 / 64) ((g462 (k461 / 64)) ||| ((1 : Int64) <<< ((nI (k461 % 64)).toInt64 &&& 63)))))))] H := hP
        have hD : va_D A [(q252, .inr (13, [.int 3, .long 0, .null, .null, .int 0, .int 0, .ref q250, .null, .null, .null, .null])), (q250, .inl (cA251, 4, .inr (.inl (vp_updL g462 (k461 / 64) ((g462 (k461 / 64)) ||| ((1 : Int64) <<< ((nI (k461 % 64)).toInt64 &&& 63)))))))] := hD
        refine W.widen (k := 2 + 0) (n := 15 + 0) (by omega) (by omega) ?_
        refine lv_iinc (v := (nI (k461 + 1))) (lv' := [(5, .int (nI (k461 + 1))), (4, .ref q252), (0, .int 65), (1, .int 90), (2, .int 97), (3, .int 122)]) hx hb dX3_range_47 hl (k := 0) rfl (nI_1 k461) (by decide) rfl (fun ls hl => ?_)
        refine lv_goto (tgt := 8) hx hb dX3_range_50 (by decide) ?_
        refine W.widen (k := 2 + 0) (n := 15 + 0) (by omega) (by omega) ?_
        exact ih (vp_updL g462 (k461 / 64) ((g462 (k461 / 64)) ||| ((1 : Int64) <<< ((nI (k461 % 64)).toInt64 &&& 63)))) _ _ _ ⟨hP.sub [0, 1] rfl, hD.sub [0, 1] (by decide) rfl, hS, lv_sub hl [0, 1, 2, 3, 4, 5] rfl⟩
      · refine lv_iload hx hb dX3_range_28 (lv_at hl 0 rfl) ?_
        refine lv_iload_n hx hb dX3_range_30 rfl (lv_at hl 4 rfl) ?_
        refine lv_icmp_lt (tgt := 47) hx hb dX3_range_31 (by decide) (fun cs503 => ?_) (fun cs503 => ?_)
        · refine lv_iinc (v := (nI (k461 + 1))) (lv' := [(5, .int (nI (k461 + 1))), (4, .ref q252), (0, .int 65), (1, .int 90), (2, .int 97), (3, .int 122)]) hx hb dX3_range_47 hl (k := 0) rfl (nI_1 k461) (by decide) rfl (fun ls hl => ?_)
          refine lv_goto (tgt := 8) hx hb dX3_range_50 (by decide) ?_
          refine W.widen (k := 2 + 0) (n := 15 + 0) (by omega) (by omega) ?_
          exact ih g462 _ _ _ ⟨hP.sub [0, 1] rfl, hD.sub [0, 1] (by decide) rfl, hS, lv_sub hl [0, 1, 2, 3, 4, 5] rfl⟩
        · refine lv_iload hx hb dX3_range_34 (lv_at hl 0 rfl) ?_
          refine lv_iload_n hx hb dX3_range_36 rfl (lv_at hl 5 rfl) ?_
          refine lv_icmp_gt (tgt := 47) hx hb dX3_range_37 (by decide) (fun cs504 => ?_) (fun cs504 => ?_)
          · refine lv_iinc (v := (nI (k461 + 1))) (lv' := [(5, .int (nI (k461 + 1))), (4, .ref q252), (0, .int 65), (1, .int 90), (2, .int 97), (3, .int 122)]) hx hb dX3_range_47 hl (k := 0) rfl (nI_1 k461) (by decide) rfl (fun ls hl => ?_)
            refine lv_goto (tgt := 8) hx hb dX3_range_50 (by decide) ?_
            refine W.widen (k := 2 + 0) (n := 15 + 0) (by omega) (by omega) ?_
            exact ih g462 _ _ _ ⟨hP.sub [0, 1] rfl, hD.sub [0, 1] (by decide) rfl, hS, lv_sub hl [0, 1, 2, 3, 4, 5] rfl⟩
          · refine lv_aload hx hb dX3_range_40 (lv_at hl 1 rfl) ?_
            refine lv_iload hx hb dX3_range_42 (lv_at hl 0 rfl) ?_
            have hPc := hP.sub (ws' := [(q252, .inr (13, [.int 3, .long 0, .null, .null, .int 0, .int 0, .ref q250, .null, .null, .null, .null])), (q250, .inl (cA251, 4, .inr (.inl g462)))]) [0, 1] rfl
            have hDc := hD.sub (ws' := [(q252, .inr (13, [.int 3, .long 0, .null, .null, .int 0, .int 0, .ref q250, .null, .null, .null, .null])), (q250, .inl (cA251, 4, .inr (.inl g462)))]) [0, 1] (by decide) rfl
            have hKc := hK.sub (tys' := [(cA251, .long)]) [0] rfl
            have hFc := va_free (wc := [(q252, .inr (13, [.int 3, .long 0, .null, .null, .int 0, .int 0, .ref q250, .null, .null, .null, .null])), (q250, .inl (cA251, 4, .inr (.inl g462)))]) hD hS hA [0, 1] rfl
            refine va_callv (va_runV (As := [.int (nI k461)]) (rest := []) ⟨hx, hb, hml, hown, hts⟩ (m_X11_put_0 l dC dI H.size q252 k461 (.int 3) (.long 0) .null .null (.int 0) (.int 0) q250 .null .null .null .null cA251 g462 (by omega) (by omega) (by omega) (by omega) (by omega) (by omega)) (cwV 1 hts gX3_range_X11_put rfl rfl rfl (by decide +kernel) ⟨Nat.le_of_ble_eq_true rfl, Nat.le_of_ble_eq_true rfl⟩) ⟨(fun a U g mk q => by obtain ⟨q0, q1, qP, qK, qD⟩ := q; exact ⟨q0, q1, qP, va_K.moved (u := U) (U := U.calling g mk a) (Vm.Alike.refl U.vm) qK, qD⟩), va_recv hK hP (ci := 13) (q0 := 0) rfl rfl, (fun U hU hW => ⟨rfl, by rw [hU], by rw [hU]; exact hPc, va_K.moved hW.alike hKc, hDc.weaken (fun _ _ _ _ => trivial)⟩)⟩ rfl rfl hl.1 rfl (lv_room (Nat.le_of_ble_eq_true rfl)) dX3_range_44 ⟨(by show _ ≤ 2; omega), (by show _ ≤ 15; omega)⟩) hS (fun q _ h => hFc q h) hFc (fun u t H1 locs ht hvm hw hB hz1 hk1 hS => ?_)
            obtain ⟨hP1, hK1, hD1⟩ := hB
            rw [ht] at hP1
            have hK1 := va_K.moved hvm.symm hK1
            obtain ⟨hP, hD⟩ := va_join (wr := []) (w1 := [(q252, .inr (13, [.int 3, .long 0, .null, .null, .int 0, .int 0, .ref q250, .null, .null, .null, .null])), (q250, .inl (cA251, 4, .inr (.inl (vp_updL g462 (k461 / 64) ((g462 (k461 / 64)) ||| ((1 : Int64) <<< ((nI (k461 % 64)).toInt64 &&& 63)))))))]) hP hD [0, 1] [] rfl rfl (by decide) (by decide) hk1 hFc hP1 hD1
            generalize H1 = H at hP hS ⊢
            have hP : va_P (dC, dI) vwCl [(q252, .inr (13, [.int 3, .long 0, .null, .null, .int 0, .int 0, .ref q250, .null, .null, .null, .null])), (q250, .inl (cA251, 4, .inr (.inl (vp_updL g462 (k461 / 64) ((g462 (k461 / 64)) ||| ((1 : Int64) <<< ((nI (k461 % 64)).toInt64 &&& 63)))))))] H := hP
            have hD : va_D A [(q252, .inr (13, [.int 3, .long 0, .null, .null, .int 0, .int 0, .ref q250, .null, .null, .null, .null])), (q250, .inl (cA251, 4, .inr (.inl (vp_updL g462 (k461 / 64) ((g462 (k461 / 64)) ||| ((1 : Int64) <<< ((nI (k461 % 64)).toInt64 &&& 63)))))))] := hD
            refine W.widen (k := 2 + 0) (n := 15 + 0) (by omega) (by omega) ?_
            refine lv_iinc (v := (nI (k461 + 1))) (lv' := [(5, .int (nI (k461 + 1))), (4, .ref q252), (0, .int 65), (1, .int 90), (2, .int 97), (3, .int 122)]) hx hb dX3_range_47 hl (k := 0) rfl (nI_1 k461) (by decide) rfl (fun ls hl => ?_)
            refine lv_goto (tgt := 8) hx hb dX3_range_50 (by decide) ?_
            refine W.widen (k := 2 + 0) (n := 15 + 0) (by omega) (by omega) ?_
            exact ih (vp_updL g462 (k461 / 64) ((g462 (k461 / 64)) ||| ((1 : Int64) <<< ((nI (k461 % 64)).toInt64 &&& 63)))) _ _ _ ⟨hP.sub [0, 1] rfl, hD.sub [0, 1] (by decide) rfl, hS, lv_sub hl [0, 1, 2, 3, 4, 5] rfl⟩
  · intro a H locs ls hI
    obtain ⟨g462, rfl⟩ : ∃ z, z = a := ⟨_, rfl⟩
    obtain ⟨hP, hD, hS, hl⟩ := hI
    have hl : lv_has ls 6 [(5, .int 256), (4, .ref q252), (0, .int 65), (1, .int 90), (2, .int 97), (3, .int 122)] := hl
    have hP : va_P (dC, dI) vwCl [(q252, .inr (13, [.int 3, .long 0, .null, .null, .int 0, .int 0, .ref q250, .null, .null, .null, .null])), (q250, .inl (cA251, 4, .inr (.inl g462)))] H := hP
    have hD : va_D A [(q252, .inr (13, [.int 3, .long 0, .null, .null, .int 0, .int 0, .ref q250, .null, .null, .null, .null])), (q250, .inl (cA251, 4, .inr (.inl g462)))] := hD
    refine W.widen (k := 2) (n := 15) (Nat.le_of_ble_eq_true rfl) (Nat.le_of_ble_eq_true rfl) ?_
    refine lv_iload hx hb dX3_range_8 (lv_at hl 0 rfl) ?_
    refine lv_sipush (v := 256) hx hb dX3_range_10 (by decide) ?_
    refine lv_icmp_ge (tgt := 53) hx hb dX3_range_13 (by decide) (fun _ => ?_) (fun cx => absurd (show (256 : Int32) ≤ 256 by decide) cx)
    refine lv_aload hx hb dX3_range_53 (lv_at hl 1 rfl) ?_
    have hP9 := hP.sub (ws' := [(q252, .inr (13, [.int 3, .long 0, .null, .null, .int 0, .int 0, .ref q250, .null, .null, .null, .null])), (q250, .inl (cA251, 4, .inr (.inl g462)))]) [0, 1] rfl
    have hD9 := hD.sub (ws' := [(q252, .inr (13, [.int 3, .long 0, .null, .null, .int 0, .int 0, .ref q250, .null, .null, .null, .null])), (q250, .inl (cA251, 4, .inr (.inl g462)))]) [0, 1] (by decide) rfl
    have hK9 := hK.sub (tys' := [(cA251, .long)]) [0] rfl
    exact W.aret (v := .ref q252) hx hb hr (Or.inl ⟨_, rfl⟩) (Or.inr ⟨_, rfl⟩) (fun t ht hW => ⟨⟨(q250, cA251, g462), q252, rfl, trivial, by rw [ht]; exact hP9, va_K.moved hW.alike hK9, hD9⟩, hS.F ht⟩) hS.2.2 dX3_range_55
