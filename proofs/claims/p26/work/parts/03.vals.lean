set_option maxHeartbeats 4000000 in
set_option maxRecDepth 100000 in
theorem m_X11_put_0 (l : Launch) (dC : Nat → ClassId) (dI : Nat → Nat → Nat) (sz : Nat) (zz : Nat → Nat) (h4 : Nat) (k5 : Nat) (v7 : Value) (v8 : Value) (v9 : Value) (v10 : Value) (v11 : Value) (v12 : Value) (h6 : Nat) (v13 : Value) (v14 : Value) (v15 : Value) (v16 : Value) (cA17 : ClassId) (f18 : Nat → Int64)  (hi_k5 : k5 ≤ 2147483647) (c1 : 0 ≤ (k5 / 64)) (c2 : (k5 / 64) < 2147483648) (c3 : (k5 / 64) < 4) (c4 : k5 / 64 < 4) (c5 : k5 / 64 < 2147483648) : Met l yX11_put wsX11_put ({ frames := 0, cells := 0, slots := 0, locals := 0 }) (va_Pc [.ref h4, .int (nI k5)] (fun U => U.heap.size = sz ∧ va_P (dC, dI) vwCl [(h4, .inr (13, [v7, v8, v9, v10, v11, v12, .ref h6, v13, v14, v15, v16])), (h6, .inl (cA17, 4, .inr (.inl f18)))] U.heap ∧ va_K (dC, dI) vwCl [(cA17, .long)] U ∧ va_D (fun _ => True) [(h4, .inr (13, [v7, v8, v9, v10, v11, v12, .ref h6, v13, v14, v15, v16])), (h6, .inl (cA17, 4, .inr (.inl f18)))] ∧ SR zz (va_A [(h4, .inr (13, [v7, v8, v9, v10, v11, v12, .ref h6, v13, v14, v15, v16])), (h6, .inl (cA17, 4, .inr (.inl f18)))] sz) U U.heap)) (va_Qv (fun (_ : Unit) => True) (fun (u : Unit) t => match u with | () => va_P (dC, dI) vwCl [(h4, .inr (13, [v7, v8, v9, v10, v11, v12, .ref h6, v13, v14, v15, v16])), (h6, .inl (cA17, 4, .inr (.inl (vp_updL f18 (k5 / 64) ((f18 (k5 / 64)) ||| ((1 : Int64) <<< ((nI (k5 % 64)).toInt64 &&& 63)))))))] t.heap ∧ va_K (dC, dI) vwCl [(cA17, .long)] t ∧ va_D (va_A [(h4, .inr (13, [v7, v8, v9, v10, v11, v12, .ref h6, v13, v14, v15, v16])), (h6, .inl (cA17, 4, .inr (.inl f18)))] sz) [(h4, .inr (13, [v7, v8, v9, v10, v11, v12, .ref h6, v13, v14, v15, v16])), (h6, .inl (cA17, 4, .inr (.inl (vp_updL f18 (k5 / 64) ((f18 (k5 / 64)) ||| ((1 : Int64) <<< ((nI (k5 % 64)).toInt64 &&& 63)))))))]) (va_A [(h4, .inr (13, [v7, v8, v9, v10, v11, v12, .ref h6, v13, v14, v15, v16])), (h6, .inl (cA17, 4, .inr (.inl f18)))] sz)) 0 0 (va_A [(h4, .inr (13, [v7, v8, v9, v10, v11, v12, .ref h6, v13, v14, v15, v16])), (h6, .inl (cA17, 4, .inr (.inl f18)))] sz) := by
  refine Met.ofW (cc := cX11_put) (maxL := 3) (ret := none) (by decide) rfl ?_
  intro p e s m args below meth c s₁ B hml hv
  obtain ⟨rfl, hsz, hP, hK, hD0, hZ⟩ := hv
  have hx := B.exec
  have hb := B.bytes
  have hr := B.returns
  have hts := atoms_spec (ws := wsX11_put) B.pre
  have hown : s.vm.findClass RX11 = some m.cls := findClass_of_methodNamed B.named
  have hlocks := B.notSynchronized
  have hinX11 : ∀ w ∈ wsX110, w ∈ wsX11_put := fun w h => List.mem_cons_of_mem _ (List.mem_append_right _ (h))
  subst hsz
  have hD := hD0.self (sz := s.heap.size)
  generalize hAe : va_A [(h4, .inr (13, [v7, v8, v9, v10, v11, v12, .ref h6, v13, v14, v15, v16])), (h6, .inl (cA17, 4, .inr (.inl f18)))] s.heap.size = A at hD hZ ⊢
  have hA : ∀ q : Nat, s.heap.size ≤ q → A q := fun q h => by rw [← hAe]; exact Or.inr h
  have hS : va_S A s.heap s.heap [] := va_S.rf
  have hl := lv_entry ([.ref h4, .int (nI k5)]) (n := 3) (Nat.le_of_ble_eq_true rfl)
  rw [lg_entry_eq]
  generalize (lg_sl ([.ref h4, .int (nI k5)]) ++ List.replicate (3 - (lg_sl ([.ref h4, .int (nI k5)])).length) Slot.unset).toArray = ls at hl ⊢
  have hl : lv_has ls 3 [(0, .ref h4), (1, .int (nI k5))] := hl
  refine lv_iload_n hx hb dX11_put_0 rfl (lv_at hl 1 rfl) ?_
  refine lv_bipush (v := 6) hx hb dX11_put_1 (by decide) ?_
  refine lv_ishr hx hb dX11_put_3 ?_
  refine lv_topi (fun z19 ez19 => ?_)
  have ez19 : z19 = nI (k5 / 64) := ez19.trans (pk_shrN (by omega) (6 &&& 31) 6 (by decide))
  subst ez19
  refine lv_istore_n (lv' := [(2, .int (nI (k5 / 64))), (0, .ref h4), (1, .int (nI k5))]) hx hb dX11_put_4 rfl hl (by decide) rfl (fun ls hl => ?_)
  refine lv_aload_n hx hb dX11_put_5 rfl (lv_at hl 1 rfl) ?_
  refine va_get (D := (dC, dI)) (ci := 13) (v := .ref h6) (C := RX11) (T := TX11) (N := 11) hx hb hts hinX11 hown hK hP 0 rfl rfl 6 (by decide) (hts (.fieldLink RX11 34 "GoalHouse$Val" "bits" "[J") (by decide +kernel)) (fun _ h9 => h9) rfl dX11_put_6 ?_
  refine lv_ifnull hx hb dX11_put_9 ?_
  refine lv_iload_n hx hb dX11_put_12 rfl (lv_at hl 0 rfl) ?_
  refine lv_if_lt (tgt := 40) hx hb dX11_put_13 (by decide) (fun cx => absurd cx (nI_nlt (a := (k5 / 64)) (b := 0) c1 c2)) (fun _ => ?_)
  refine lv_iload_n hx hb dX11_put_16 rfl (lv_at hl 0 rfl) ?_
  refine lv_aload_n hx hb dX11_put_17 rfl (lv_at hl 1 rfl) ?_
  refine va_get (D := (dC, dI)) (ci := 13) (v := .ref h6) (C := RX11) (T := TX11) (N := 11) hx hb hts hinX11 hown hK hP 0 rfl rfl 6 (by decide) (hts (.fieldLink RX11 34 "GoalHouse$Val" "bits" "[J") (by decide +kernel)) (fun _ h9 => h9) rfl dX11_put_18 ?_
  refine va_alen (v := 4) hx hb hK hP 1 0 rfl rfl rfl dX11_put_21 ?_
  refine lv_icmp_ge (tgt := 40) hx hb dX11_put_22 (by decide) (fun cx => absurd cx (nI_ge (a := (k5 / 64)) (b := 4) c3 (by decide))) (fun _ => ?_)
  refine lv_aload_n hx hb dX11_put_25 rfl (lv_at hl 1 rfl) ?_
  refine va_get (D := (dC, dI)) (ci := 13) (v := .ref h6) (C := RX11) (T := TX11) (N := 11) hx hb hts hinX11 hown hK hP 0 rfl rfl 6 (by decide) (hts (.fieldLink RX11 34 "GoalHouse$Val" "bits" "[J") (by decide +kernel)) (fun _ h9 => h9) rfl dX11_put_26 ?_
  refine lv_iload_n hx hb dX11_put_29 rfl (lv_at hl 0 rfl) ?_
  refine lv_dup2_11 hx hb dX11_put_30 rfl rfl ?_
  refine va_lald hx hb hK hP 1 0 rfl rfl (vp_in_nI c4 (by decide)) dX11_put_31 ?_
  refine lv_topl (fun z20 ez20 => ?_)
  have ez20 : z20 = f18 (k5 / 64) := ez20.trans (by rw [nI_clamp (n := (k5 / 64)) c5])
  subst ez20
  refine lv_lconst (v := 1) hx hb dX11_put_32 (by decide) ?_
  refine lv_iload_n hx hb dX11_put_33 rfl (lv_at hl 2 rfl) ?_
  refine lv_bipush (v := 63) hx hb dX11_put_34 (by decide) ?_
  refine lv_iand hx hb dX11_put_36 ?_
  refine lv_topi (fun z21 ez21 => ?_)
  have ez21 : z21 = nI (k5 % 64) := ez21.trans (pk_andN (m := 63) (by omega) 6 (by decide))
  subst ez21
  refine lv_lshl (v := ((1 : Int64) <<< ((nI (k5 % 64)).toInt64 &&& 63))) hx hb dX11_put_37 rfl ?_
  refine lv_lor hx hb dX11_put_38 ?_
  refine va_last (x := ((f18 (k5 / 64)) ||| ((1 : Int64) <<< ((nI (k5 % 64)).toInt64 &&& 63)))) hx hb hK hP hD hS 1 0 rfl rfl (vp_in_nI c4 (by decide)) dX11_put_39 (fun H locs hP hD hS => ?_)
  rw [nI_clamp (n := (k5 / 64)) c5] at hP hD
  have hP : va_P (dC, dI) vwCl [(h4, .inr (13, [v7, v8, v9, v10, v11, v12, .ref h6, v13, v14, v15, v16])), (h6, .inl (cA17, 4, .inr (.inl (vp_updL f18 (k5 / 64) ((f18 (k5 / 64)) ||| ((1 : Int64) <<< ((nI (k5 % 64)).toInt64 &&& 63)))))))] H := hP
  have hD : va_D A [(h4, .inr (13, [v7, v8, v9, v10, v11, v12, .ref h6, v13, v14, v15, v16])), (h6, .inl (cA17, 4, .inr (.inl (vp_updL f18 (k5 / 64) ((f18 (k5 / 64)) ||| ((1 : Int64) <<< ((nI (k5 % 64)).toInt64 &&& 63)))))))] := hD
  have hP9 := hP.sub (ws' := [(h4, .inr (13, [v7, v8, v9, v10, v11, v12, .ref h6, v13, v14, v15, v16])), (h6, .inl (cA17, 4, .inr (.inl (vp_updL f18 (k5 / 64) ((f18 (k5 / 64)) ||| ((1 : Int64) <<< ((nI (k5 % 64)).toInt64 &&& 63)))))))]) [0, 1] rfl
  have hD9 := hD.sub (ws' := [(h4, .inr (13, [v7, v8, v9, v10, v11, v12, .ref h6, v13, v14, v15, v16])), (h6, .inl (cA17, 4, .inr (.inl (vp_updL f18 (k5 / 64) ((f18 (k5 / 64)) ||| ((1 : Int64) <<< ((nI (k5 % 64)).toInt64 &&& 63)))))))]) [0, 1] (by decide) rfl
  have hK9 := hK.sub (tys' := [(cA17, .long)]) [0] rfl
  exact W.vret hx hb hr (fun t ht hW => ⟨⟨(), rfl, trivial, by rw [ht]; exact hP9, va_K.moved hW.alike hK9, hD9⟩, hS.F ht⟩) hS.2.2 dX11_put_40
set_option maxHeartbeats 4000000 in
set_option maxRecDepth 100000 in
theorem m_Jxa1e45_init_da8c8_0 (l : Launch) (dC : Nat → ClassId) (dI : Nat → Nat → Nat) (sz : Nat) (zz : Nat → Nat) (h30 : Nat) (v31 : Value) (v32 : Value) (v33 : Value)   : Met l yJxa1e45_init_da8c8 wsJxa1e45_init_da8c8 ({ frames := 1, cells := 0, slots := 0, locals := 12 }) (va_Pc [.ref h30] (fun U => U.heap.size = sz ∧ va_P (dC, dI) vwCl [(h30, .inr (2, [v31, v32, v33]))] U.heap ∧ va_K (dC, dI) vwCl [] U ∧ va_D (fun _ => True) [(h30, .inr (2, [v31, v32, v33]))] ∧ SR zz (va_A [(h30, .inr (2, [v31, v32, v33]))] sz) U U.heap)) (va_Qv (fun (_ : Unit) => True) (fun (u : Unit) t => match u with | () => va_P (dC, dI) vwCl [(h30, .inr (2, [v31, v32, v33]))] t.heap ∧ va_K (dC, dI) vwCl [] t ∧ va_D (va_A [(h30, .inr (2, [v31, v32, v33]))] sz) [(h30, .inr (2, [v31, v32, v33]))]) (va_A [(h30, .inr (2, [v31, v32, v33]))] sz)) 0 0 (va_A [(h30, .inr (2, [v31, v32, v33]))] sz) := by
  refine Met.ofW (cc := cJxa1e45_init_da8c8) (maxL := 1) (ret := none) (by decide) rfl ?_
  intro p e s m args below meth c s₁ B hml hv
  obtain ⟨rfl, hsz, hP, hK, hD0, hZ⟩ := hv
  have hx := B.exec
  have hb := B.bytes
  have hr := B.returns
  have hts := atoms_spec (ws := wsJxa1e45_init_da8c8) B.pre
  have hown : s.vm.findClass RJxa1e45 = some m.cls := findClass_of_methodNamed B.named
  have hlocks := B.notSynchronized
  have hin : meth.name = "<init>" := (name_of_methodNamed B.named B.method).1
  subst hsz
  have hD := hD0.self (sz := s.heap.size)
  generalize hAe : va_A [(h30, .inr (2, [v31, v32, v33]))] s.heap.size = A at hD hZ ⊢
  have hA : ∀ q : Nat, s.heap.size ≤ q → A q := fun q h => by rw [← hAe]; exact Or.inr h
  have hS : va_S A s.heap s.heap [] := va_S.rf
  have hl := lv_entry ([.ref h30]) (n := 1) (Nat.le_of_ble_eq_true rfl)
  rw [lg_entry_eq]
  generalize (lg_sl ([.ref h30]) ++ List.replicate (1 - (lg_sl ([.ref h30])).length) Slot.unset).toArray = ls at hl ⊢
  have hl : lv_has ls 1 [(0, .ref h30)] := hl
  refine lv_aload_n hx hb dJxa1e45_init_da8c8_0 rfl (lv_at hl 0 rfl) ?_
  refine W.objInit hx hb hown (hts (.methodLink RJxa1e45 1 objectInit) (by decide +kernel)) (hts (.instanceMethod objectInit) (by decide +kernel)) (hts (.code objectInit ⟨#[0xb1]⟩ 1 none) (by decide +kernel)) rfl (by rw [hml]; exact hl.1) rfl dJxa1e45_init_da8c8_1 (Nat.le_of_ble_eq_true rfl) (Nat.le_of_ble_eq_true rfl) ?_
  refine W.eq (g2 := F0 m 4 ls []) rfl ?_
  have hP9 := hP.sub (ws' := [(h30, .inr (2, [v31, v32, v33]))]) [0] rfl
  have hD9 := hD.sub (ws' := [(h30, .inr (2, [v31, v32, v33]))]) [0] (by decide) rfl
  have hK9 := hK.sub (tys' := []) [] rfl
  exact W.vret hx hb hr (fun t ht hW => ⟨⟨(), rfl, trivial, by rw [ht]; exact hP9, va_K.moved hW.alike hK9, hD9⟩, hS.F ht⟩) hS.2.2 dJxa1e45_init_da8c8_4
set_option maxHeartbeats 4000000 in
set_option maxRecDepth 100000 in
theorem m_Jxc12de_init_da8c8_0 (l : Launch) (dC : Nat → ClassId) (dI : Nat → Nat → Nat) (sz : Nat) (zz : Nat → Nat) (h26 : Nat) (v27 : Value) (v28 : Value) (v29 : Value)   : Met l yJxc12de_init_da8c8 wsJxc12de_init_da8c8 ({ frames := 2, cells := 0, slots := 0, locals := 32 }) (va_Pc [.ref h26] (fun U => U.heap.size = sz ∧ va_P (dC, dI) vwCl [(h26, .inr (2, [v27, v28, v29]))] U.heap ∧ va_K (dC, dI) vwCl [] U ∧ va_D (fun _ => True) [(h26, .inr (2, [v27, v28, v29]))] ∧ SR zz (va_A [(h26, .inr (2, [v27, v28, v29]))] sz) U U.heap)) (va_Qv (fun (_ : Unit) => True) (fun (u : Unit) t => match u with | () => va_P (dC, dI) vwCl [(h26, .inr (2, [.int 0, v28, v29]))] t.heap ∧ va_K (dC, dI) vwCl [] t ∧ va_D (va_A [(h26, .inr (2, [v27, v28, v29]))] sz) [(h26, .inr (2, [.int 0, v28, v29]))]) (va_A [(h26, .inr (2, [v27, v28, v29]))] sz)) 0 0 (va_A [(h26, .inr (2, [v27, v28, v29]))] sz) := by
  refine Met.ofW (cc := cJxc12de_init_da8c8) (maxL := 1) (ret := none) (by decide) rfl ?_
  intro p e s m args below meth c s₁ B hml hv
  obtain ⟨rfl, hsz, hP, hK, hD0, hZ⟩ := hv
  have hx := B.exec
  have hb := B.bytes
  have hr := B.returns
  have hts := atoms_spec (ws := wsJxc12de_init_da8c8) B.pre
  have hown : s.vm.findClass RJxc12de = some m.cls := findClass_of_methodNamed B.named
  have hlocks := B.notSynchronized
  have hin : meth.name = "<init>" := (name_of_methodNamed B.named B.method).1
  have hinJx4a65c : ∀ w ∈ wsJx4a65c0, w ∈ wsJxc12de_init_da8c8 := fun w h => List.mem_cons_of_mem _ (List.mem_append_right _ (h))
  subst hsz
  have hD := hD0.self (sz := s.heap.size)
  generalize hAe : va_A [(h26, .inr (2, [v27, v28, v29]))] s.heap.size = A at hD hZ ⊢
  have hA : ∀ q : Nat, s.heap.size ≤ q → A q := fun q h => by rw [← hAe]; exact Or.inr h
  have hS : va_S A s.heap s.heap [] := va_S.rf
  have hl := lv_entry ([.ref h26]) (n := 1) (Nat.le_of_ble_eq_true rfl)
  rw [lg_entry_eq]
  generalize (lg_sl ([.ref h26]) ++ List.replicate (1 - (lg_sl ([.ref h26])).length) Slot.unset).toArray = ls at hl ⊢
  have hl : lv_has ls 1 [(0, .ref h26)] := hl
  refine lv_aload_n hx hb dJxc12de_init_da8c8_0 rfl (lv_at hl 0 rfl) ?_
  have hPc := hP.sub (ws' := [(h26, .inr (2, [v27, v28, v29]))]) [0] rfl
  have hDc := hD.sub (ws' := [(h26, .inr (2, [v27, v28, v29]))]) [0] (by decide) rfl
  have hKc := hK.sub (tys' := []) [] rfl
  have hFc := va_free (wc := [(h26, .inr (2, [v27, v28, v29]))]) hD hS hA [0] rfl
  refine va_callv (va_runI (As := []) (rest := []) ⟨hx, hb, hml, hown, hts⟩ (m_Jxa1e45_init_da8c8_0 l dC dI s.heap.size zz h26 v27 v28 v29) (cwI 0 hts gJxc12de_init_da8c8_Jxa1e45_init_da8c8 rfl rfl rfl (hts (.initialized RJxa1e45) (by decide +kernel)) (hts (.methodLink RJxc12de 1 yJxa1e45_init_da8c8) (by decide +kernel)) (hts (.instanceMethod yJxa1e45_init_da8c8) (by decide +kernel)) rfl (by decide +kernel) ⟨Nat.le_of_ble_eq_true rfl, Nat.le_of_ble_eq_true rfl⟩) ⟨(fun a U g mk q => by obtain ⟨q0, q1, qP, qK, qD, qZ⟩ := q; exact ⟨q0, q1, qP, va_K.moved (u := U) (U := U.calling g mk a) (Vm.Alike.refl U.vm) qK, qD, SR.moved (u := U) (U := U.calling g mk a) (Vm.Alike.refl U.vm) qZ⟩), (fun U hU hW => ⟨rfl, by rw [hU], by rw [hU]; exact hPc, va_K.moved hW.alike hKc, hDc.weaken (fun _ _ _ _ => trivial), by rw [hU]; exact SR.moved hW.alike (SR.narrow (SR.kept hZ hS.2.1) hFc)⟩)⟩ rfl rfl hl.1 rfl (lv_room (Nat.le_of_ble_eq_true rfl)) dJxc12de_init_da8c8_1 ⟨(Nat.le_of_ble_eq_true rfl), (Nat.le_of_ble_eq_true rfl)⟩) hS (fun q _ h => hFc q h) hFc (fun u t H1 locs ht hvm hw hB hz1 hk1 hS => ?_)
  obtain ⟨hP1, hK1, hD1⟩ := hB
  rw [ht] at hP1
  have hK1 := va_K.moved hvm.symm hK1
  obtain ⟨hP, hD⟩ := va_join (wr := []) (w1 := [(h26, .inr (2, [v27, v28, v29]))]) hP hD [0] [] rfl rfl (by decide) (by decide) hk1 hFc hP1 hD1
  generalize H1 = H at hP hS ⊢
  have hP : va_P (dC, dI) vwCl [(h26, .inr (2, [v27, v28, v29]))] H := hP
  have hD : va_D A [(h26, .inr (2, [v27, v28, v29]))] := hD
  refine W.widen (k := 0) (n := 0) (Nat.le_of_ble_eq_true rfl) (Nat.le_of_ble_eq_true rfl) ?_
  refine lv_aload_n hx hb dJxc12de_init_da8c8_4 rfl (lv_at hl 0 rfl) ?_
  refine lv_iconst (v := 0) hx hb dJxc12de_init_da8c8_5 (by decide) ?_
  refine va_put (D := (dC, dI)) (ci := 2) (v := .int 0) (ty := .int) (C := RJx4a65c) (T := TJx4a65c) (N := 3) hx hb hts hinJx4a65c tyJx4a65c tyJx4a65c_ok nmJx4a65c hown hK hP hD hS 0 rfl rfl 0 (by decide) (hts (.fieldLink RJxc12de 7 "java/util/AbstractList" "modCount" "I") (by decide +kernel)) (fun _ h9 => h9) rfl (by decide +kernel) rfl rfl (Nat.le_of_ble_eq_true rfl) dJxc12de_init_da8c8_6 (fun H locs hP hD hS => ?_)
  have hP : va_P (dC, dI) vwCl [(h26, .inr (2, [.int 0, v28, v29]))] H := hP
  have hD : va_D A [(h26, .inr (2, [.int 0, v28, v29]))] := hD
  have hP9 := hP.sub (ws' := [(h26, .inr (2, [.int 0, v28, v29]))]) [0] rfl
  have hD9 := hD.sub (ws' := [(h26, .inr (2, [.int 0, v28, v29]))]) [0] (by decide) rfl
  have hK9 := hK.sub (tys' := []) [] rfl
  exact W.vret hx hb hr (fun t ht hW => ⟨⟨(), rfl, trivial, by rw [ht]; exact hP9, va_K.moved hW.alike hK9, hD9⟩, hS.F ht⟩) hS.2.2 dJxc12de_init_da8c8_9
set_option maxHeartbeats 4000000 in
set_option maxRecDepth 100000 in
theorem m_Jx4a65c_init_da8c8_0 (l : Launch) (dC : Nat → ClassId) (dI : Nat → Nat → Nat) (sz : Nat) (zz : Nat → Nat) (h22 : Nat) (v23 : Value) (v24 : Value) (v25 : Value)   : Met l yJx4a65c_init_da8c8 wsJx4a65c_init_da8c8 ({ frames := 3, cells := 0, slots := 0, locals := 52 }) (va_Pc [.ref h22] (fun U => U.heap.size = sz ∧ va_P (dC, dI) vwCl [(h22, .inr (2, [v23, v24, v25]))] U.heap ∧ va_K (dC, dI) vwCl [] U ∧ va_D (fun _ => True) [(h22, .inr (2, [v23, v24, v25]))] ∧ SR zz (va_A [(h22, .inr (2, [v23, v24, v25]))] sz) U U.heap)) (va_Qv (fun (_ : Unit) => True) (fun (u : Unit) t => match u with | () => va_P (dC, dI) vwCl [(h22, .inr (2, [.int 0, .ref (zz 0), v25]))] t.heap ∧ va_K (dC, dI) vwCl [] t ∧ va_D (va_A [(h22, .inr (2, [v23, v24, v25]))] sz) [(h22, .inr (2, [.int 0, .ref (zz 0), v25]))]) (va_A [(h22, .inr (2, [v23, v24, v25]))] sz)) 0 0 (va_A [(h22, .inr (2, [v23, v24, v25]))] sz) := by
  refine Met.ofW (cc := cJx4a65c_init_da8c8) (maxL := 1) (ret := none) (by decide) rfl ?_
  intro p e s m args below meth c s₁ B hml hv
  obtain ⟨rfl, hsz, hP, hK, hD0, hZ⟩ := hv
  have hx := B.exec
  have hb := B.bytes
  have hr := B.returns
  have hts := atoms_spec (ws := wsJx4a65c_init_da8c8) B.pre
  have hown : s.vm.findClass RJx4a65c = some m.cls := findClass_of_methodNamed B.named
  have hlocks := B.notSynchronized
  have hin : meth.name = "<init>" := (name_of_methodNamed B.named B.method).1
  have hinJx4a65c : ∀ w ∈ wsJx4a65c0, w ∈ wsJx4a65c_init_da8c8 := fun w h => List.mem_cons_of_mem _ (List.mem_append_right _ (h))
  subst hsz
  have hD := hD0.self (sz := s.heap.size)
  generalize hAe : va_A [(h22, .inr (2, [v23, v24, v25]))] s.heap.size = A at hD hZ ⊢
  have hA : ∀ q : Nat, s.heap.size ≤ q → A q := fun q h => by rw [← hAe]; exact Or.inr h
  have hS : va_S A s.heap s.heap [] := va_S.rf
  have hl := lv_entry ([.ref h22]) (n := 1) (Nat.le_of_ble_eq_true rfl)
  rw [lg_entry_eq]
  generalize (lg_sl ([.ref h22]) ++ List.replicate (1 - (lg_sl ([.ref h22])).length) Slot.unset).toArray = ls at hl ⊢
  have hl : lv_has ls 1 [(0, .ref h22)] := hl
  refine lv_aload_n hx hb dJx4a65c_init_da8c8_0 rfl (lv_at hl 0 rfl) ?_
  have hPc := hP.sub (ws' := [(h22, .inr (2, [v23, v24, v25]))]) [0] rfl
  have hDc := hD.sub (ws' := [(h22, .inr (2, [v23, v24, v25]))]) [0] (by decide) rfl
  have hKc := hK.sub (tys' := []) [] rfl
  have hFc := va_free (wc := [(h22, .inr (2, [v23, v24, v25]))]) hD hS hA [0] rfl
  refine va_callv (va_runI (As := []) (rest := []) ⟨hx, hb, hml, hown, hts⟩ (m_Jxc12de_init_da8c8_0 l dC dI s.heap.size zz h22 v23 v24 v25) (cwI 0 hts gJx4a65c_init_da8c8_Jxc12de_init_da8c8 rfl rfl rfl (hts (.initialized RJxc12de) (by decide +kernel)) (hts (.methodLink RJx4a65c 1 yJxc12de_init_da8c8) (by decide +kernel)) (hts (.instanceMethod yJxc12de_init_da8c8) (by decide +kernel)) rfl (by decide +kernel) ⟨Nat.le_of_ble_eq_true rfl, Nat.le_of_ble_eq_true rfl⟩) ⟨(fun a U g mk q => by obtain ⟨q0, q1, qP, qK, qD, qZ⟩ := q; exact ⟨q0, q1, qP, va_K.moved (u := U) (U := U.calling g mk a) (Vm.Alike.refl U.vm) qK, qD, SR.moved (u := U) (U := U.calling g mk a) (Vm.Alike.refl U.vm) qZ⟩), (fun U hU hW => ⟨rfl, by rw [hU], by rw [hU]; exact hPc, va_K.moved hW.alike hKc, hDc.weaken (fun _ _ _ _ => trivial), by rw [hU]; exact SR.moved hW.alike (SR.narrow (SR.kept hZ hS.2.1) hFc)⟩)⟩ rfl rfl hl.1 rfl (lv_room (Nat.le_of_ble_eq_true rfl)) dJx4a65c_init_da8c8_1 ⟨(Nat.le_of_ble_eq_true rfl), (Nat.le_of_ble_eq_true rfl)⟩) hS (fun q _ h => hFc q h) hFc (fun u t H1 locs ht hvm hw hB hz1 hk1 hS => ?_)
  obtain ⟨hP1, hK1, hD1⟩ := hB
  rw [ht] at hP1
  have hK1 := va_K.moved hvm.symm hK1
  obtain ⟨hP, hD⟩ := va_join (wr := []) (w1 := [(h22, .inr (2, [.int 0, v24, v25]))]) hP hD [0] [] rfl rfl (by decide) (by decide) hk1 hFc hP1 hD1
  generalize H1 = H at hP hS ⊢
  have hP : va_P (dC, dI) vwCl [(h22, .inr (2, [.int 0, v24, v25]))] H := hP
  have hD : va_D A [(h22, .inr (2, [.int 0, v24, v25]))] := hD
  refine W.widen (k := 0) (n := 0) (Nat.le_of_ble_eq_true rfl) (Nat.le_of_ble_eq_true rfl) ?_
  refine lv_aload_n hx hb dJx4a65c_init_da8c8_4 rfl (lv_at hl 0 rfl) ?_
  refine va_gets hx hb hZ.1 hS hown (hts (.fieldLink RJx4a65c 39 "java/util/ArrayList" "DEFAULTCAPACITY_EMPTY_ELEMENTDATA" "[Ljava/lang/Object;") (by decide +kernel)) (fun _ h9 => h9) dJx4a65c_init_da8c8_5 ?_
  refine va_put (D := (dC, dI)) (ci := 2) (v := .ref (zz 0)) (ty := (.array (.object "java/lang/Object"))) (C := RJx4a65c) (T := TJx4a65c) (N := 3) hx hb hts hinJx4a65c tyJx4a65c tyJx4a65c_ok nmJx4a65c hown hK hP hD hS 0 rfl rfl 1 (by decide) (hts (.fieldLink RJx4a65c 9 "java/util/ArrayList" "elementData" "[Ljava/lang/Object;") (by decide +kernel)) (fun _ h9 => h9) rfl (by decide +kernel) rfl rfl (Nat.le_of_ble_eq_true rfl) dJx4a65c_init_da8c8_8 (fun H locs hP hD hS => ?_)
  have hP : va_P (dC, dI) vwCl [(h22, .inr (2, [.int 0, .ref (zz 0), v25]))] H := hP
  have hD : va_D A [(h22, .inr (2, [.int 0, .ref (zz 0), v25]))] := hD
  have hP9 := hP.sub (ws' := [(h22, .inr (2, [.int 0, .ref (zz 0), v25]))]) [0] rfl
  have hD9 := hD.sub (ws' := [(h22, .inr (2, [.int 0, .ref (zz 0), v25]))]) [0] (by decide) rfl
  have hK9 := hK.sub (tys' := []) [] rfl
  exact W.vret hx hb hr (fun t ht hW => ⟨⟨(), rfl, trivial, by rw [ht]; exact hP9, va_K.moved hW.alike hK9, hD9⟩, hS.F ht⟩) hS.2.2 dJx4a65c_init_da8c8_11
set_option maxHeartbeats 4000000 in
set_option maxRecDepth 100000 in
theorem m_Jxc12de_init_da8c8_1 (l : Launch) (dC : Nat → ClassId) (dI : Nat → Nat → Nat) (sz : Nat) (zz : Nat → Nat) (h56 : Nat) (v57 : Value) (v58 : Value)   : Met l yJxc12de_init_da8c8 wsJxc12de_init_da8c8 ({ frames := 2, cells := 0, slots := 0, locals := 32 }) (va_Pc [.ref h56] (fun U => U.heap.size = sz ∧ va_P (dC, dI) vwCl [(h56, .inr (2, [.int 0, v57, v58]))] U.heap ∧ va_K (dC, dI) vwCl [] U ∧ va_D (fun _ => True) [(h56, .inr (2, [.int 0, v57, v58]))] ∧ SR zz (va_A [(h56, .inr (2, [.int 0, v57, v58]))] sz) U U.heap)) (va_Qv (fun (_ : Unit) => True) (fun (u : Unit) t => match u with | () => va_P (dC, dI) vwCl [(h56, .inr (2, [.int 0, v57, v58]))] t.heap ∧ va_K (dC, dI) vwCl [] t ∧ va_D (va_A [(h56, .inr (2, [.int 0, v57, v58]))] sz) [(h56, .inr (2, [.int 0, v57, v58]))]) (va_A [(h56, .inr (2, [.int 0, v57, v58]))] sz)) 0 0 (va_A [(h56, .inr (2, [.int 0, v57, v58]))] sz) := by
  refine Met.ofW (cc := cJxc12de_init_da8c8) (maxL := 1) (ret := none) (by decide) rfl ?_
  intro p e s m args below meth c s₁ B hml hv
  obtain ⟨rfl, hsz, hP, hK, hD0, hZ⟩ := hv
  have hx := B.exec
  have hb := B.bytes
  have hr := B.returns
  have hts := atoms_spec (ws := wsJxc12de_init_da8c8) B.pre
  have hown : s.vm.findClass RJxc12de = some m.cls := findClass_of_methodNamed B.named
  have hlocks := B.notSynchronized
  have hin : meth.name = "<init>" := (name_of_methodNamed B.named B.method).1
  have hinJx4a65c : ∀ w ∈ wsJx4a65c0, w ∈ wsJxc12de_init_da8c8 := fun w h => List.mem_cons_of_mem _ (List.mem_append_right _ (h))
  subst hsz
  have hD := hD0.self (sz := s.heap.size)
  generalize hAe : va_A [(h56, .inr (2, [.int 0, v57, v58]))] s.heap.size = A at hD hZ ⊢
  have hA : ∀ q : Nat, s.heap.size ≤ q → A q := fun q h => by rw [← hAe]; exact Or.inr h
  have hS : va_S A s.heap s.heap [] := va_S.rf
  have hl := lv_entry ([.ref h56]) (n := 1) (Nat.le_of_ble_eq_true rfl)
  rw [lg_entry_eq]
  generalize (lg_sl ([.ref h56]) ++ List.replicate (1 - (lg_sl ([.ref h56])).length) Slot.unset).toArray = ls at hl ⊢
  have hl : lv_has ls 1 [(0, .ref h56)] := hl
  refine lv_aload_n hx hb dJxc12de_init_da8c8_0 rfl (lv_at hl 0 rfl) ?_
  have hPc := hP.sub (ws' := [(h56, .inr (2, [.int 0, v57, v58]))]) [0] rfl
  have hDc := hD.sub (ws' := [(h56, .inr (2, [.int 0, v57, v58]))]) [0] (by decide) rfl
  have hKc := hK.sub (tys' := []) [] rfl
  have hFc := va_free (wc := [(h56, .inr (2, [.int 0, v57, v58]))]) hD hS hA [0] rfl
  refine va_callv (va_runI (As := []) (rest := []) ⟨hx, hb, hml, hown, hts⟩ (m_Jxa1e45_init_da8c8_0 l dC dI s.heap.size zz h56 (.int 0) v57 v58) (cwI 0 hts gJxc12de_init_da8c8_Jxa1e45_init_da8c8 rfl rfl rfl (hts (.initialized RJxa1e45) (by decide +kernel)) (hts (.methodLink RJxc12de 1 yJxa1e45_init_da8c8) (by decide +kernel)) (hts (.instanceMethod yJxa1e45_init_da8c8) (by decide +kernel)) rfl (by decide +kernel) ⟨Nat.le_of_ble_eq_true rfl, Nat.le_of_ble_eq_true rfl⟩) ⟨(fun a U g mk q => by obtain ⟨q0, q1, qP, qK, qD, qZ⟩ := q; exact ⟨q0, q1, qP, va_K.moved (u := U) (U := U.calling g mk a) (Vm.Alike.refl U.vm) qK, qD, SR.moved (u := U) (U := U.calling g mk a) (Vm.Alike.refl U.vm) qZ⟩), (fun U hU hW => ⟨rfl, by rw [hU], by rw [hU]; exact hPc, va_K.moved hW.alike hKc, hDc.weaken (fun _ _ _ _ => trivial), by rw [hU]; exact SR.moved hW.alike (SR.narrow (SR.kept hZ hS.2.1) hFc)⟩)⟩ rfl rfl hl.1 rfl (lv_room (Nat.le_of_ble_eq_true rfl)) dJxc12de_init_da8c8_1 ⟨(Nat.le_of_ble_eq_true rfl), (Nat.le_of_ble_eq_true rfl)⟩) hS (fun q _ h => hFc q h) hFc (fun u t H1 locs ht hvm hw hB hz1 hk1 hS => ?_)
  obtain ⟨hP1, hK1, hD1⟩ := hB
  rw [ht] at hP1
  have hK1 := va_K.moved hvm.symm hK1
  obtain ⟨hP, hD⟩ := va_join (wr := []) (w1 := [(h56, .inr (2, [.int 0, v57, v58]))]) hP hD [0] [] rfl rfl (by decide) (by decide) hk1 hFc hP1 hD1
  generalize H1 = H at hP hS ⊢
  have hP : va_P (dC, dI) vwCl [(h56, .inr (2, [.int 0, v57, v58]))] H := hP
  have hD : va_D A [(h56, .inr (2, [.int 0, v57, v58]))] := hD
  refine W.widen (k := 0) (n := 0) (Nat.le_of_ble_eq_true rfl) (Nat.le_of_ble_eq_true rfl) ?_
  refine lv_aload_n hx hb dJxc12de_init_da8c8_4 rfl (lv_at hl 0 rfl) ?_
  refine lv_iconst (v := 0) hx hb dJxc12de_init_da8c8_5 (by decide) ?_
  refine va_put (D := (dC, dI)) (ci := 2) (v := .int 0) (ty := .int) (C := RJx4a65c) (T := TJx4a65c) (N := 3) hx hb hts hinJx4a65c tyJx4a65c tyJx4a65c_ok nmJx4a65c hown hK hP hD hS 0 rfl rfl 0 (by decide) (hts (.fieldLink RJxc12de 7 "java/util/AbstractList" "modCount" "I") (by decide +kernel)) (fun _ h9 => h9) rfl (by decide +kernel) rfl rfl (Nat.le_of_ble_eq_true rfl) dJxc12de_init_da8c8_6 (fun H locs hP hD hS => ?_)
  have hP : va_P (dC, dI) vwCl [(h56, .inr (2, [.int 0, v57, v58]))] H := hP
  have hD : va_D A [(h56, .inr (2, [.int 0, v57, v58]))] := hD
  have hP9 := hP.sub (ws' := [(h56, .inr (2, [.int 0, v57, v58]))]) [0] rfl
  have hD9 := hD.sub (ws' := [(h56, .inr (2, [.int 0, v57, v58]))]) [0] (by decide) rfl
  have hK9 := hK.sub (tys' := []) [] rfl
  exact W.vret hx hb hr (fun t ht hW => ⟨⟨(), rfl, trivial, by rw [ht]; exact hP9, va_K.moved hW.alike hK9, hD9⟩, hS.F ht⟩) hS.2.2 dJxc12de_init_da8c8_9
set_option maxHeartbeats 4000000 in
set_option maxRecDepth 100000 in
theorem m_Jx4a65c_init_da8c8_1 (l : Launch) (dC : Nat → ClassId) (dI : Nat → Nat → Nat) (sz : Nat) (zz : Nat → Nat) (h54 : Nat) (v55 : Value)   : Met l yJx4a65c_init_da8c8 wsJx4a65c_init_da8c8 ({ frames := 3, cells := 0, slots := 0, locals := 52 }) (va_Pc [.ref h54] (fun U => U.heap.size = sz ∧ va_P (dC, dI) vwCl [(h54, .inr (2, [.int 0, .null, v55]))] U.heap ∧ va_K (dC, dI) vwCl [] U ∧ va_D (fun _ => True) [(h54, .inr (2, [.int 0, .null, v55]))] ∧ SR zz (va_A [(h54, .inr (2, [.int 0, .null, v55]))] sz) U U.heap)) (va_Qv (fun (_ : Unit) => True) (fun (u : Unit) t => match u with | () => va_P (dC, dI) vwCl [(h54, .inr (2, [.int 0, .ref (zz 0), v55]))] t.heap ∧ va_K (dC, dI) vwCl [] t ∧ va_D (va_A [(h54, .inr (2, [.int 0, .null, v55]))] sz) [(h54, .inr (2, [.int 0, .ref (zz 0), v55]))]) (va_A [(h54, .inr (2, [.int 0, .null, v55]))] sz)) 0 0 (va_A [(h54, .inr (2, [.int 0, .null, v55]))] sz) := by
  refine Met.ofW (cc := cJx4a65c_init_da8c8) (maxL := 1) (ret := none) (by decide) rfl ?_
  intro p e s m args below meth c s₁ B hml hv
  obtain ⟨rfl, hsz, hP, hK, hD0, hZ⟩ := hv
  have hx := B.exec
  have hb := B.bytes
  have hr := B.returns
  have hts := atoms_spec (ws := wsJx4a65c_init_da8c8) B.pre
  have hown : s.vm.findClass RJx4a65c = some m.cls := findClass_of_methodNamed B.named
  have hlocks := B.notSynchronized
  have hin : meth.name = "<init>" := (name_of_methodNamed B.named B.method).1
  have hinJx4a65c : ∀ w ∈ wsJx4a65c0, w ∈ wsJx4a65c_init_da8c8 := fun w h => List.mem_cons_of_mem _ (List.mem_append_right _ (h))
  subst hsz
  have hD := hD0.self (sz := s.heap.size)
  generalize hAe : va_A [(h54, .inr (2, [.int 0, .null, v55]))] s.heap.size = A at hD hZ ⊢
  have hA : ∀ q : Nat, s.heap.size ≤ q → A q := fun q h => by rw [← hAe]; exact Or.inr h
  have hS : va_S A s.heap s.heap [] := va_S.rf
  have hl := lv_entry ([.ref h54]) (n := 1) (Nat.le_of_ble_eq_true rfl)
  rw [lg_entry_eq]
  generalize (lg_sl ([.ref h54]) ++ List.replicate (1 - (lg_sl ([.ref h54])).length) Slot.unset).toArray = ls at hl ⊢
  have hl : lv_has ls 1 [(0, .ref h54)] := hl
  refine lv_aload_n hx hb dJx4a65c_init_da8c8_0 rfl (lv_at hl 0 rfl) ?_
  have hPc := hP.sub (ws' := [(h54, .inr (2, [.int 0, .null, v55]))]) [0] rfl
  have hDc := hD.sub (ws' := [(h54, .inr (2, [.int 0, .null, v55]))]) [0] (by decide) rfl
  have hKc := hK.sub (tys' := []) [] rfl
  have hFc := va_free (wc := [(h54, .inr (2, [.int 0, .null, v55]))]) hD hS hA [0] rfl
  refine va_callv (va_runI (As := []) (rest := []) ⟨hx, hb, hml, hown, hts⟩ (m_Jxc12de_init_da8c8_1 l dC dI s.heap.size zz h54 .null v55) (cwI 0 hts gJx4a65c_init_da8c8_Jxc12de_init_da8c8 rfl rfl rfl (hts (.initialized RJxc12de) (by decide +kernel)) (hts (.methodLink RJx4a65c 1 yJxc12de_init_da8c8) (by decide +kernel)) (hts (.instanceMethod yJxc12de_init_da8c8) (by decide +kernel)) rfl (by decide +kernel) ⟨Nat.le_of_ble_eq_true rfl, Nat.le_of_ble_eq_true rfl⟩) ⟨(fun a U g mk q => by obtain ⟨q0, q1, qP, qK, qD, qZ⟩ := q; exact ⟨q0, q1, qP, va_K.moved (u := U) (U := U.calling g mk a) (Vm.Alike.refl U.vm) qK, qD, SR.moved (u := U) (U := U.calling g mk a) (Vm.Alike.refl U.vm) qZ⟩), (fun U hU hW => ⟨rfl, by rw [hU], by rw [hU]; exact hPc, va_K.moved hW.alike hKc, hDc.weaken (fun _ _ _ _ => trivial), by rw [hU]; exact SR.moved hW.alike (SR.narrow (SR.kept hZ hS.2.1) hFc)⟩)⟩ rfl rfl hl.1 rfl (lv_room (Nat.le_of_ble_eq_true rfl)) dJx4a65c_init_da8c8_1 ⟨(Nat.le_of_ble_eq_true rfl), (Nat.le_of_ble_eq_true rfl)⟩) hS (fun q _ h => hFc q h) hFc (fun u t H1 locs ht hvm hw hB hz1 hk1 hS => ?_)
  obtain ⟨hP1, hK1, hD1⟩ := hB
  rw [ht] at hP1
  have hK1 := va_K.moved hvm.symm hK1
  obtain ⟨hP, hD⟩ := va_join (wr := []) (w1 := [(h54, .inr (2, [.int 0, .null, v55]))]) hP hD [0] [] rfl rfl (by decide) (by decide) hk1 hFc hP1 hD1
  generalize H1 = H at hP hS ⊢
  have hP : va_P (dC, dI) vwCl [(h54, .inr (2, [.int 0, .null, v55]))] H := hP
  have hD : va_D A [(h54, .inr (2, [.int 0, .null, v55]))] := hD
  refine W.widen (k := 0) (n := 0) (Nat.le_of_ble_eq_true rfl) (Nat.le_of_ble_eq_true rfl) ?_
  refine lv_aload_n hx hb dJx4a65c_init_da8c8_4 rfl (lv_at hl 0 rfl) ?_
  refine va_gets hx hb hZ.1 hS hown (hts (.fieldLink RJx4a65c 39 "java/util/ArrayList" "DEFAULTCAPACITY_EMPTY_ELEMENTDATA" "[Ljava/lang/Object;") (by decide +kernel)) (fun _ h9 => h9) dJx4a65c_init_da8c8_5 ?_
  refine va_put (D := (dC, dI)) (ci := 2) (v := .ref (zz 0)) (ty := (.array (.object "java/lang/Object"))) (C := RJx4a65c) (T := TJx4a65c) (N := 3) hx hb hts hinJx4a65c tyJx4a65c tyJx4a65c_ok nmJx4a65c hown hK hP hD hS 0 rfl rfl 1 (by decide) (hts (.fieldLink RJx4a65c 9 "java/util/ArrayList" "elementData" "[Ljava/lang/Object;") (by decide +kernel)) (fun _ h9 => h9) rfl (by decide +kernel) rfl rfl (Nat.le_of_ble_eq_true rfl) dJx4a65c_init_da8c8_8 (fun H locs hP hD hS => ?_)
  have hP : va_P (dC, dI) vwCl [(h54, .inr (2, [.int 0, .ref (zz 0), v55]))] H := hP
  have hD : va_D A [(h54, .inr (2, [.int 0, .ref (zz 0), v55]))] := hD
  have hP9 := hP.sub (ws' := [(h54, .inr (2, [.int 0, .ref (zz 0), v55]))]) [0] rfl
  have hD9 := hD.sub (ws' := [(h54, .inr (2, [.int 0, .ref (zz 0), v55]))]) [0] (by decide) rfl
  have hK9 := hK.sub (tys' := []) [] rfl
  exact W.vret hx hb hr (fun t ht hW => ⟨⟨(), rfl, trivial, by rw [ht]; exact hP9, va_K.moved hW.alike hK9, hD9⟩, hS.F ht⟩) hS.2.2 dJx4a65c_init_da8c8_11
set_option maxHeartbeats 4000000 in
set_option maxRecDepth 100000 in
theorem m_X5_init_0 (l : Launch) (dC : Nat → ClassId) (dI : Nat → Nat → Nat) (sz : Nat) (zz : Nat → Nat) (h42 : Nat) (h43 : Nat) (v44 : Value) (v45 : Value) (v46 : Value) (v47 : Value) (v48 : Value) (v49 : Value) (v50 : Value) (v51 : Value) (v52 : Value)   : Met l yX5_init wsX5_init ({ frames := 4, cells := 2, slots := 6, locals := 72 }) (va_Pc [.ref h42, .ref h43, .int 2] (fun U => U.heap.size = sz ∧ va_P (dC, dI) vwCl [(h42, .inr (7, [.null, .int 0, v44, v45, .null, .null, v46, v47, v48, v49, v50, v51, v52]))] U.heap ∧ va_K (dC, dI) vwCl [] U ∧ va_D (fun _ => True) [(h42, .inr (7, [.null, .int 0, v44, v45, .null, .null, v46, v47, v48, v49, v50, v51, v52]))] ∧ SR zz (va_A [(h42, .inr (7, [.null, .int 0, v44, v45, .null, .null, v46, v47, v48, v49, v50, v51, v52]))] sz) U U.heap)) (va_Qv (fun (_ : Nat × Nat) => True) (fun (u : Nat × Nat) t => match u with | (q53, q63) => va_P (dC, dI) vwCl [(h42, .inr (7, [.ref h43, .int 2, v44, v45, .ref q53, .ref q63, v46, v47, v48, v49, v50, v51, v52])), (q53, .inr (2, [.int 0, .ref (zz 0), .int 0])), (q63, .inr (2, [.int 0, .ref (zz 0), .int 0]))] t.heap ∧ va_K (dC, dI) vwCl [] t ∧ va_D (va_A [(h42, .inr (7, [.null, .int 0, v44, v45, .null, .null, v46, v47, v48, v49, v50, v51, v52]))] sz) [(h42, .inr (7, [.ref h43, .int 2, v44, v45, .ref q53, .ref q63, v46, v47, v48, v49, v50, v51, v52])), (q53, .inr (2, [.int 0, .ref (zz 0), .int 0])), (q63, .inr (2, [.int 0, .ref (zz 0), .int 0]))]) (va_A [(h42, .inr (7, [.null, .int 0, v44, v45, .null, .null, v46, v47, v48, v49, v50, v51, v52]))] sz)) 2 6 (va_A [(h42, .inr (7, [.null, .int 0, v44, v45, .null, .null, v46, v47, v48, v49, v50, v51, v52]))] sz) := by
  refine Met.ofW (cc := cX5_init) (maxL := 3) (ret := none) (by decide) rfl ?_
  intro p e s m args below meth c s₁ B hml hv
  obtain ⟨rfl, hsz, hP, hK, hD0, hZ⟩ := hv
  have hx := B.exec
  have hb := B.bytes
  have hr := B.returns
  have hts := atoms_spec (ws := wsX5_init) B.pre
  have hown : s.vm.findClass RX5 = some m.cls := findClass_of_methodNamed B.named
  have hlocks := B.notSynchronized
  have hin : meth.name = "<init>" := (name_of_methodNamed B.named B.method).1
  have hinJx4a65c : ∀ w ∈ wsJx4a65c0, w ∈ wsX5_init := fun w h => List.mem_cons_of_mem _ (List.mem_append_left _ (List.mem_append_right _ (h)))
  have hinX5 : ∀ w ∈ wsX50, w ∈ wsX5_init := fun w h => List.mem_cons_of_mem _ (List.mem_append_right _ (h))
  subst hsz
  have hD := hD0.self (sz := s.heap.size)
  generalize hAe : va_A [(h42, .inr (7, [.null, .int 0, v44, v45, .null, .null, v46, v47, v48, v49, v50, v51, v52]))] s.heap.size = A at hD hZ ⊢
  have hA : ∀ q : Nat, s.heap.size ≤ q → A q := fun q h => by rw [← hAe]; exact Or.inr h
  have hS : va_S A s.heap s.heap [] := va_S.rf
  have hl := lv_entry ([.ref h42, .ref h43, .int 2]) (n := 3) (Nat.le_of_ble_eq_true rfl)
  rw [lg_entry_eq]
  generalize (lg_sl ([.ref h42, .ref h43, .int 2]) ++ List.replicate (3 - (lg_sl ([.ref h42, .ref h43, .int 2])).length) Slot.unset).toArray = ls at hl ⊢
  have hl : lv_has ls 3 [(0, .ref h42), (1, .ref h43), (2, .int 2)] := hl
  refine lv_aload_n hx hb dX5_init_0 rfl (lv_at hl 0 rfl) ?_
  refine W.objInit hx hb hown (hts (.methodLink RX5 1 objectInit) (by decide +kernel)) (hts (.instanceMethod objectInit) (by decide +kernel)) (hts (.code objectInit ⟨#[0xb1]⟩ 1 none) (by decide +kernel)) rfl (by rw [hml]; exact hl.1) rfl dX5_init_1 (Nat.le_of_ble_eq_true rfl) (Nat.le_of_ble_eq_true rfl) ?_
  refine W.eq (g2 := F0 m 4 ls []) rfl ?_
  refine lv_aload_n hx hb dX5_init_4 rfl (lv_at hl 0 rfl) ?_
  refine va_new (ci := 2) (fs := [.int 0, .null, .int 0]) (C := RJx4a65c) (T := TJx4a65c) (N := 3) hx hb hts hinJx4a65c tyJx4a65c tyJx4a65c_ok hown (hts (.classLink RX5 7 RJx4a65c) (by decide +kernel)) (hts (.instantiable RJx4a65c 3) (by decide +kernel)) (hts (.initialized RJx4a65c) (by decide +kernel)) hK hP hD hS hA rfl (fun j hj => by rcases (show j = 0 ∨ j = 1 ∨ j = 2 by omega) with rfl | rfl | rfl <;> rfl) (Nat.le_of_ble_eq_true rfl) (Nat.le_of_ble_eq_true rfl) dX5_init_5 (fun q53 H hP hD hS => ?_)
  have hP : va_P (dC, dI) vwCl [(h42, .inr (7, [.null, .int 0, v44, v45, .null, .null, v46, v47, v48, v49, v50, v51, v52])), (q53, .inr (2, [.int 0, .null, .int 0]))] H := hP
  have hD : va_D A [(h42, .inr (7, [.null, .int 0, v44, v45, .null, .null, v46, v47, v48, v49, v50, v51, v52])), (q53, .inr (2, [.int 0, .null, .int 0]))] := hD
  refine W.widen (k := 1) (n := 3) (Nat.le_of_ble_eq_true rfl) (Nat.le_of_ble_eq_true rfl) ?_
  refine lv_dup hx hb dX5_init_8 rfl ?_
  have hPc := hP.sub (ws' := [(q53, .inr (2, [.int 0, .null, .int 0]))]) [1] rfl
  have hDc := hD.sub (ws' := [(q53, .inr (2, [.int 0, .null, .int 0]))]) [1] (by decide) rfl
  have hKc := hK.sub (tys' := []) [] rfl
  have hFc := va_free (wc := [(q53, .inr (2, [.int 0, .null, .int 0]))]) hD hS hA [1] rfl
  refine va_callv (va_runI (As := []) (rest := [.ref q53, .ref h42]) ⟨hx, hb, hml, hown, hts⟩ (m_Jx4a65c_init_da8c8_1 l dC dI H.size zz q53 (.int 0)) (cwI 0 hts gX5_init_Jx4a65c_init_da8c8 rfl rfl rfl (hts (.initialized RJx4a65c) (by decide +kernel)) (hts (.methodLink RX5 9 yJx4a65c_init_da8c8) (by decide +kernel)) (hts (.instanceMethod yJx4a65c_init_da8c8) (by decide +kernel)) rfl (by decide +kernel) ⟨Nat.le_of_ble_eq_true rfl, Nat.le_of_ble_eq_true rfl⟩) ⟨(fun a U g mk q => by obtain ⟨q0, q1, qP, qK, qD, qZ⟩ := q; exact ⟨q0, q1, qP, va_K.moved (u := U) (U := U.calling g mk a) (Vm.Alike.refl U.vm) qK, qD, SR.moved (u := U) (U := U.calling g mk a) (Vm.Alike.refl U.vm) qZ⟩), (fun U hU hW => ⟨rfl, by rw [hU], by rw [hU]; exact hPc, va_K.moved hW.alike hKc, hDc.weaken (fun _ _ _ _ => trivial), by rw [hU]; exact SR.moved hW.alike (SR.narrow (SR.kept hZ hS.2.1) hFc)⟩)⟩ rfl rfl hl.1 rfl (lv_room (Nat.le_of_ble_eq_true rfl)) dX5_init_9 ⟨(Nat.le_of_ble_eq_true rfl), (Nat.le_of_ble_eq_true rfl)⟩) hS (fun q _ h => hFc q h) hFc (fun u t H1 locs ht hvm hw hB hz1 hk1 hS => ?_)
  obtain ⟨hP1, hK1, hD1⟩ := hB
  rw [ht] at hP1
  have hK1 := va_K.moved hvm.symm hK1
  obtain ⟨hP, hD⟩ := va_join (wr := [(h42, .inr (7, [.null, .int 0, v44, v45, .null, .null, v46, v47, v48, v49, v50, v51, v52]))]) (w1 := [(q53, .inr (2, [.int 0, .ref (zz 0), .int 0]))]) hP hD [1] [0] rfl rfl (by decide) (by decide) hk1 hFc hP1 hD1
  generalize H1 = H at hP hS ⊢
  have hP : va_P (dC, dI) vwCl [(h42, .inr (7, [.null, .int 0, v44, v45, .null, .null, v46, v47, v48, v49, v50, v51, v52])), (q53, .inr (2, [.int 0, .ref (zz 0), .int 0]))] H := hP
  have hD : va_D A [(h42, .inr (7, [.null, .int 0, v44, v45, .null, .null, v46, v47, v48, v49, v50, v51, v52])), (q53, .inr (2, [.int 0, .ref (zz 0), .int 0]))] := hD
  refine W.widen (k := 1) (n := 3) (Nat.le_of_ble_eq_true rfl) (Nat.le_of_ble_eq_true rfl) ?_
  refine va_putF (D := (dC, dI)) (ci := 7) (v := .ref q53) (ty := (.object "java/util/ArrayList")) (C := RX5) (T := TX5) (N := 13) hx hb hts hinX5 tyX5 tyX5_ok nmX5 hown hK hP hD hS 0 rfl rfl 4 (by decide) (hts (.fieldLink RX5 10 "GoalHouse$Proc" "names" "Ljava/util/ArrayList;") (by decide +kernel)) (fun _ h9 => h9) rfl hin rfl (by decide +kernel) rfl rfl (Nat.le_of_ble_eq_true rfl) dX5_init_12 (fun H locs hP hD hS => ?_)
  have hP : va_P (dC, dI) vwCl [(h42, .inr (7, [.null, .int 0, v44, v45, .ref q53, .null, v46, v47, v48, v49, v50, v51, v52])), (q53, .inr (2, [.int 0, .ref (zz 0), .int 0]))] H := hP
  have hD : va_D A [(h42, .inr (7, [.null, .int 0, v44, v45, .ref q53, .null, v46, v47, v48, v49, v50, v51, v52])), (q53, .inr (2, [.int 0, .ref (zz 0), .int 0]))] := hD
  refine lv_aload_n hx hb dX5_init_15 rfl (lv_at hl 0 rfl) ?_
  refine va_new (ci := 2) (fs := [.int 0, .null, .int 0]) (C := RJx4a65c) (T := TJx4a65c) (N := 3) hx hb hts hinJx4a65c tyJx4a65c tyJx4a65c_ok hown (hts (.classLink RX5 7 RJx4a65c) (by decide +kernel)) (hts (.instantiable RJx4a65c 3) (by decide +kernel)) (hts (.initialized RJx4a65c) (by decide +kernel)) hK hP hD hS hA rfl (fun j hj => by rcases (show j = 0 ∨ j = 1 ∨ j = 2 by omega) with rfl | rfl | rfl <;> rfl) (Nat.le_of_ble_eq_true rfl) (Nat.le_of_ble_eq_true rfl) dX5_init_16 (fun q63 H hP hD hS => ?_)
  have hP : va_P (dC, dI) vwCl [(h42, .inr (7, [.null, .int 0, v44, v45, .ref q53, .null, v46, v47, v48, v49, v50, v51, v52])), (q53, .inr (2, [.int 0, .ref (zz 0), .int 0])), (q63, .inr (2, [.int 0, .null, .int 0]))] H := hP
  have hD : va_D A [(h42, .inr (7, [.null, .int 0, v44, v45, .ref q53, .null, v46, v47, v48, v49, v50, v51, v52])), (q53, .inr (2, [.int 0, .ref (zz 0), .int 0])), (q63, .inr (2, [.int 0, .null, .int 0]))] := hD
  refine W.widen (k := 2) (n := 6) (Nat.le_of_ble_eq_true rfl) (Nat.le_of_ble_eq_true rfl) ?_
  refine lv_dup hx hb dX5_init_19 rfl ?_
  have hPc := hP.sub (ws' := [(q63, .inr (2, [.int 0, .null, .int 0]))]) [2] rfl
  have hDc := hD.sub (ws' := [(q63, .inr (2, [.int 0, .null, .int 0]))]) [2] (by decide) rfl
  have hKc := hK.sub (tys' := []) [] rfl
  have hFc := va_free (wc := [(q63, .inr (2, [.int 0, .null, .int 0]))]) hD hS hA [2] rfl
  refine va_callv (va_runI (As := []) (rest := [.ref q63, .ref h42]) ⟨hx, hb, hml, hown, hts⟩ (m_Jx4a65c_init_da8c8_1 l dC dI H.size zz q63 (.int 0)) (cwI 0 hts gX5_init_Jx4a65c_init_da8c8 rfl rfl rfl (hts (.initialized RJx4a65c) (by decide +kernel)) (hts (.methodLink RX5 9 yJx4a65c_init_da8c8) (by decide +kernel)) (hts (.instanceMethod yJx4a65c_init_da8c8) (by decide +kernel)) rfl (by decide +kernel) ⟨Nat.le_of_ble_eq_true rfl, Nat.le_of_ble_eq_true rfl⟩) ⟨(fun a U g mk q => by obtain ⟨q0, q1, qP, qK, qD, qZ⟩ := q; exact ⟨q0, q1, qP, va_K.moved (u := U) (U := U.calling g mk a) (Vm.Alike.refl U.vm) qK, qD, SR.moved (u := U) (U := U.calling g mk a) (Vm.Alike.refl U.vm) qZ⟩), (fun U hU hW => ⟨rfl, by rw [hU], by rw [hU]; exact hPc, va_K.moved hW.alike hKc, hDc.weaken (fun _ _ _ _ => trivial), by rw [hU]; exact SR.moved hW.alike (SR.narrow (SR.kept hZ hS.2.1) hFc)⟩)⟩ rfl rfl hl.1 rfl (lv_room (Nat.le_of_ble_eq_true rfl)) dX5_init_20 ⟨(Nat.le_of_ble_eq_true rfl), (Nat.le_of_ble_eq_true rfl)⟩) hS (fun q _ h => hFc q h) hFc (fun u t H1 locs ht hvm hw hB hz1 hk1 hS => ?_)
  obtain ⟨hP1, hK1, hD1⟩ := hB
  rw [ht] at hP1
  have hK1 := va_K.moved hvm.symm hK1
  obtain ⟨hP, hD⟩ := va_join (wr := [(h42, .inr (7, [.null, .int 0, v44, v45, .ref q53, .null, v46, v47, v48, v49, v50, v51, v52])), (q53, .inr (2, [.int 0, .ref (zz 0), .int 0]))]) (w1 := [(q63, .inr (2, [.int 0, .ref (zz 0), .int 0]))]) hP hD [2] [0, 1] rfl rfl (by decide) (by decide) hk1 hFc hP1 hD1
  generalize H1 = H at hP hS ⊢
  have hP : va_P (dC, dI) vwCl [(h42, .inr (7, [.null, .int 0, v44, v45, .ref q53, .null, v46, v47, v48, v49, v50, v51, v52])), (q53, .inr (2, [.int 0, .ref (zz 0), .int 0])), (q63, .inr (2, [.int 0, .ref (zz 0), .int 0]))] H := hP
  have hD : va_D A [(h42, .inr (7, [.null, .int 0, v44, v45, .ref q53, .null, v46, v47, v48, v49, v50, v51, v52])), (q53, .inr (2, [.int 0, .ref (zz 0), .int 0])), (q63, .inr (2, [.int 0, .ref (zz 0), .int 0]))] := hD
  refine W.widen (k := 2) (n := 6) (Nat.le_of_ble_eq_true rfl) (Nat.le_of_ble_eq_true rfl) ?_
  refine va_putF (D := (dC, dI)) (ci := 7) (v := .ref q63) (ty := (.object "java/util/ArrayList")) (C := RX5) (T := TX5) (N := 13) hx hb hts hinX5 tyX5 tyX5_ok nmX5 hown hK hP hD hS 0 rfl rfl 5 (by decide) (hts (.fieldLink RX5 16 "GoalHouse$Proc" "statics" "Ljava/util/ArrayList;") (by decide +kernel)) (fun _ h9 => h9) rfl hin rfl (by decide +kernel) rfl rfl (Nat.le_of_ble_eq_true rfl) dX5_init_23 (fun H locs hP hD hS => ?_)
  have hP : va_P (dC, dI) vwCl [(h42, .inr (7, [.null, .int 0, v44, v45, .ref q53, .ref q63, v46, v47, v48, v49, v50, v51, v52])), (q53, .inr (2, [.int 0, .ref (zz 0), .int 0])), (q63, .inr (2, [.int 0, .ref (zz 0), .int 0]))] H := hP
  have hD : va_D A [(h42, .inr (7, [.null, .int 0, v44, v45, .ref q53, .ref q63, v46, v47, v48, v49, v50, v51, v52])), (q53, .inr (2, [.int 0, .ref (zz 0), .int 0])), (q63, .inr (2, [.int 0, .ref (zz 0), .int 0]))] := hD
  refine lv_aload_n hx hb dX5_init_26 rfl (lv_at hl 0 rfl) ?_
  refine lv_aload_n hx hb dX5_init_27 rfl (lv_at hl 1 rfl) ?_
  refine va_putF (D := (dC, dI)) (ci := 7) (v := .ref h43) (ty := (.object "java/lang/String")) (C := RX5) (T := TX5) (N := 13) hx hb hts hinX5 tyX5 tyX5_ok nmX5 hown hK hP hD hS 0 rfl rfl 0 (by decide) (hts (.fieldLink RX5 19 "GoalHouse$Proc" "name" "Ljava/lang/String;") (by decide +kernel)) (fun _ h9 => h9) rfl hin rfl (by decide +kernel) rfl rfl (Nat.le_of_ble_eq_true rfl) dX5_init_28 (fun H locs hP hD hS => ?_)
  have hP : va_P (dC, dI) vwCl [(h42, .inr (7, [.ref h43, .int 0, v44, v45, .ref q53, .ref q63, v46, v47, v48, v49, v50, v51, v52])), (q53, .inr (2, [.int 0, .ref (zz 0), .int 0])), (q63, .inr (2, [.int 0, .ref (zz 0), .int 0]))] H := hP
  have hD : va_D A [(h42, .inr (7, [.ref h43, .int 0, v44, v45, .ref q53, .ref q63, v46, v47, v48, v49, v50, v51, v52])), (q53, .inr (2, [.int 0, .ref (zz 0), .int 0])), (q63, .inr (2, [.int 0, .ref (zz 0), .int 0]))] := hD
  refine lv_aload_n hx hb dX5_init_31 rfl (lv_at hl 0 rfl) ?_
  refine lv_iload_n hx hb dX5_init_32 rfl (lv_at hl 2 rfl) ?_
  refine va_putF (D := (dC, dI)) (ci := 7) (v := .int 2) (ty := .int) (C := RX5) (T := TX5) (N := 13) hx hb hts hinX5 tyX5 tyX5_ok nmX5 hown hK hP hD hS 0 rfl rfl 1 (by decide) (hts (.fieldLink RX5 23 "GoalHouse$Proc" "kind" "I") (by decide +kernel)) (fun _ h9 => h9) rfl hin rfl (by decide +kernel) rfl rfl (Nat.le_of_ble_eq_true rfl) dX5_init_33 (fun H locs hP hD hS => ?_)
  have hP : va_P (dC, dI) vwCl [(h42, .inr (7, [.ref h43, .int 2, v44, v45, .ref q53, .ref q63, v46, v47, v48, v49, v50, v51, v52])), (q53, .inr (2, [.int 0, .ref (zz 0), .int 0])), (q63, .inr (2, [.int 0, .ref (zz 0), .int 0]))] H := hP
  have hD : va_D A [(h42, .inr (7, [.ref h43, .int 2, v44, v45, .ref q53, .ref q63, v46, v47, v48, v49, v50, v51, v52])), (q53, .inr (2, [.int 0, .ref (zz 0), .int 0])), (q63, .inr (2, [.int 0, .ref (zz 0), .int 0]))] := hD
  have hP9 := hP.sub (ws' := [(h42, .inr (7, [.ref h43, .int 2, v44, v45, .ref q53, .ref q63, v46, v47, v48, v49, v50, v51, v52])), (q53, .inr (2, [.int 0, .ref (zz 0), .int 0])), (q63, .inr (2, [.int 0, .ref (zz 0), .int 0]))]) [0, 1, 2] rfl
  have hD9 := hD.sub (ws' := [(h42, .inr (7, [.ref h43, .int 2, v44, v45, .ref q53, .ref q63, v46, v47, v48, v49, v50, v51, v52])), (q53, .inr (2, [.int 0, .ref (zz 0), .int 0])), (q63, .inr (2, [.int 0, .ref (zz 0), .int 0]))]) [0, 1, 2] (by decide) rfl
  have hK9 := hK.sub (tys' := []) [] rfl
  exact W.vret hx hb hr (fun t ht hW => ⟨⟨(q53, q63), rfl, trivial, by rw [ht]; exact hP9, va_K.moved hW.alike hK9, hD9⟩, hS.F ht⟩) hS.2.2 dX5_init_36
set_option maxHeartbeats 4000000 in
set_option maxRecDepth 100000 in
theorem m_X11_init_0 (l : Launch) (dC : Nat → ClassId) (dI : Nat → Nat → Nat) (sz : Nat) (zz : Nat → Nat) (h69 : Nat) (v70 : Value) (v71 : Value) (v72 : Value) (v73 : Value) (v74 : Value) (v75 : Value) (v76 : Value) (v77 : Value) (v78 : Value) (v79 : Value)   : Met l yX11_init wsX11_init ({ frames := 1, cells := 0, slots := 0, locals := 12 }) (va_Pc [.ref h69, .int 4] (fun U => U.heap.size = sz ∧ va_P (dC, dI) vwCl [(h69, .inr (13, [.int 0, v70, v71, v72, v73, v74, v75, v76, v77, v78, v79]))] U.heap ∧ va_K (dC, dI) vwCl [] U ∧ va_D (fun _ => True) [(h69, .inr (13, [.int 0, v70, v71, v72, v73, v74, v75, v76, v77, v78, v79]))] ∧ SR zz (va_A [(h69, .inr (13, [.int 0, v70, v71, v72, v73, v74, v75, v76, v77, v78, v79]))] sz) U U.heap)) (va_Qv (fun (_ : Unit) => True) (fun (u : Unit) t => match u with | () => va_P (dC, dI) vwCl [(h69, .inr (13, [.int 4, v70, v71, v72, v73, v74, v75, v76, v77, v78, v79]))] t.heap ∧ va_K (dC, dI) vwCl [] t ∧ va_D (va_A [(h69, .inr (13, [.int 0, v70, v71, v72, v73, v74, v75, v76, v77, v78, v79]))] sz) [(h69, .inr (13, [.int 4, v70, v71, v72, v73, v74, v75, v76, v77, v78, v79]))]) (va_A [(h69, .inr (13, [.int 0, v70, v71, v72, v73, v74, v75, v76, v77, v78, v79]))] sz)) 0 0 (va_A [(h69, .inr (13, [.int 0, v70, v71, v72, v73, v74, v75, v76, v77, v78, v79]))] sz) := by
  refine Met.ofW (cc := cX11_init) (maxL := 2) (ret := none) (by decide) rfl ?_
  intro p e s m args below meth c s₁ B hml hv
  obtain ⟨rfl, hsz, hP, hK, hD0, hZ⟩ := hv
  have hx := B.exec
  have hb := B.bytes
  have hr := B.returns
  have hts := atoms_spec (ws := wsX11_init) B.pre
  have hown : s.vm.findClass RX11 = some m.cls := findClass_of_methodNamed B.named
  have hlocks := B.notSynchronized
  have hin : meth.name = "<init>" := (name_of_methodNamed B.named B.method).1
  have hinX11 : ∀ w ∈ wsX110, w ∈ wsX11_init := fun w h => List.mem_cons_of_mem _ (List.mem_append_right _ (h))
  subst hsz
  have hD := hD0.self (sz := s.heap.size)
  generalize hAe : va_A [(h69, .inr (13, [.int 0, v70, v71, v72, v73, v74, v75, v76, v77, v78, v79]))] s.heap.size = A at hD hZ ⊢
  have hA : ∀ q : Nat, s.heap.size ≤ q → A q := fun q h => by rw [← hAe]; exact Or.inr h
  have hS : va_S A s.heap s.heap [] := va_S.rf
  have hl := lv_entry ([.ref h69, .int 4]) (n := 2) (Nat.le_of_ble_eq_true rfl)
  rw [lg_entry_eq]
  generalize (lg_sl ([.ref h69, .int 4]) ++ List.replicate (2 - (lg_sl ([.ref h69, .int 4])).length) Slot.unset).toArray = ls at hl ⊢
  have hl : lv_has ls 2 [(0, .ref h69), (1, .int 4)] := hl
  refine lv_aload_n hx hb dX11_init_0 rfl (lv_at hl 0 rfl) ?_
  refine W.objInit hx hb hown (hts (.methodLink RX11 1 objectInit) (by decide +kernel)) (hts (.instanceMethod objectInit) (by decide +kernel)) (hts (.code objectInit ⟨#[0xb1]⟩ 1 none) (by decide +kernel)) rfl (by rw [hml]; exact hl.1) rfl dX11_init_1 (Nat.le_of_ble_eq_true rfl) (Nat.le_of_ble_eq_true rfl) ?_
  refine W.eq (g2 := F0 m 4 ls []) rfl ?_
  refine lv_aload_n hx hb dX11_init_4 rfl (lv_at hl 0 rfl) ?_
  refine lv_iload_n hx hb dX11_init_5 rfl (lv_at hl 1 rfl) ?_
  refine va_putF (D := (dC, dI)) (ci := 13) (v := .int 4) (ty := .int) (C := RX11) (T := TX11) (N := 11) hx hb hts hinX11 tyX11 tyX11_ok nmX11 hown hK hP hD hS 0 rfl rfl 0 (by decide) (hts (.fieldLink RX11 7 "GoalHouse$Val" "kind" "I") (by decide +kernel)) (fun _ h9 => h9) rfl hin rfl (by decide +kernel) rfl rfl (Nat.le_of_ble_eq_true rfl) dX11_init_6 (fun H locs hP hD hS => ?_)
  have hP : va_P (dC, dI) vwCl [(h69, .inr (13, [.int 4, v70, v71, v72, v73, v74, v75, v76, v77, v78, v79]))] H := hP
  have hD : va_D A [(h69, .inr (13, [.int 4, v70, v71, v72, v73, v74, v75, v76, v77, v78, v79]))] := hD
  have hP9 := hP.sub (ws' := [(h69, .inr (13, [.int 4, v70, v71, v72, v73, v74, v75, v76, v77, v78, v79]))]) [0] rfl
  have hD9 := hD.sub (ws' := [(h69, .inr (13, [.int 4, v70, v71, v72, v73, v74, v75, v76, v77, v78, v79]))]) [0] (by decide) rfl
  have hK9 := hK.sub (tys' := []) [] rfl
  exact W.vret hx hb hr (fun t ht hW => ⟨⟨(), rfl, trivial, by rw [ht]; exact hP9, va_K.moved hW.alike hK9, hD9⟩, hS.F ht⟩) hS.2.2 dX11_init_9
set_option maxHeartbeats 4000000 in
set_option maxRecDepth 100000 in
theorem m_X5_make_0 (l : Launch) (dC : Nat → ClassId) (dI : Nat → Nat → Nat) (sz : Nat) (zz : Nat → Nat) (h38 : Nat)   : Met l yX5_make wsX5_make ({ frames := 5, cells := 4, slots := 30, locals := 94 }) (va_Pc [.ref h38, .int 2, .int 5] (fun U => U.heap.size = sz ∧ va_P (dC, dI) vwCl [] U.heap ∧ va_K (dC, dI) vwCl [] U ∧ va_D (fun _ => True) [] ∧ SR zz (va_A [] sz) U U.heap)) (va_Qr (fun (_ : Nat × Nat × Nat) => True) (fun (u : Nat × Nat × Nat) (q39 : Nat) t => match u with | (q66, q67, q68) => va_P (dC, dI) vwCl [(q39, .inr (7, [.ref h38, .int 2, .int 5, .int 0, .ref q66, .ref q67, .int 0, .int 0, .int 0, .int 0, .null, .null, .ref q68])), (q66, .inr (2, [.int 0, .ref (zz 0), .int 0])), (q67, .inr (2, [.int 0, .ref (zz 0), .int 0])), (q68, .inr (13, [.int 4, .long 0, .null, .null, .int 0, .int 0, .null, .null, .null, .null, .ref q39]))] t.heap ∧ va_K (dC, dI) vwCl [] t ∧ va_D (va_A [] sz) [(q39, .inr (7, [.ref h38, .int 2, .int 5, .int 0, .ref q66, .ref q67, .int 0, .int 0, .int 0, .int 0, .null, .null, .ref q68])), (q66, .inr (2, [.int 0, .ref (zz 0), .int 0])), (q67, .inr (2, [.int 0, .ref (zz 0), .int 0])), (q68, .inr (13, [.int 4, .long 0, .null, .null, .int 0, .int 0, .null, .null, .null, .null, .ref q39]))]) (va_A [] sz)) 4 30 (va_A [] sz) := by
  refine Met.ofW (cc := cX5_make) (maxL := 4) (ret := (some (.object "GoalHouse$Proc"))) (by decide) rfl ?_
  intro p e s m args below meth c s₁ B hml hv
  obtain ⟨rfl, hsz, hP, hK, hD0, hZ⟩ := hv
  have hx := B.exec
  have hb := B.bytes
  have hr := B.returns
  have hts := atoms_spec (ws := wsX5_make) B.pre
  have hown : s.vm.findClass RX5 = some m.cls := findClass_of_methodNamed B.named
  have hlocks := B.notSynchronized
  have hinX5 : ∀ w ∈ wsX50, w ∈ wsX5_make := fun w h => List.mem_cons_of_mem _ (List.mem_append_left _ (List.mem_append_left _ (List.mem_append_right _ (h))))
  have hinX11 : ∀ w ∈ wsX110, w ∈ wsX5_make := fun w h => List.mem_cons_of_mem _ (List.mem_append_left _ (List.mem_append_right _ (h)))
  subst hsz
  have hD := hD0.self (sz := s.heap.size)
  generalize hAe : va_A [] s.heap.size = A at hD hZ ⊢
  have hA : ∀ q : Nat, s.heap.size ≤ q → A q := fun q h => by rw [← hAe]; exact Or.inr h
  have hS : va_S A s.heap s.heap [] := va_S.rf
  have hl := lv_entry ([.ref h38, .int 2, .int 5]) (n := 4) (Nat.le_of_ble_eq_true rfl)
  rw [lg_entry_eq]
  generalize (lg_sl ([.ref h38, .int 2, .int 5]) ++ List.replicate (4 - (lg_sl ([.ref h38, .int 2, .int 5])).length) Slot.unset).toArray = ls at hl ⊢
  have hl : lv_has ls 4 [(0, .ref h38), (1, .int 2), (2, .int 5)] := hl
  refine va_new (ci := 7) (fs := [.null, .int 0, .int 0, .int 0, .null, .null, .int 0, .int 0, .int 0, .int 0, .null, .null, .null]) (C := RX5) (T := TX5) (N := 13) hx hb hts hinX5 tyX5 tyX5_ok hown (hts (.classLink RX5 11 RX5) (by decide +kernel)) (hts (.instantiable RX5 13) (by decide +kernel)) (hts (.initialized RX5) (by decide +kernel)) hK hP hD hS hA rfl (fun j hj => by rcases (show j = 0 ∨ j = 1 ∨ j = 2 ∨ j = 3 ∨ j = 4 ∨ j = 5 ∨ j = 6 ∨ j = 7 ∨ j = 8 ∨ j = 9 ∨ j = 10 ∨ j = 11 ∨ j = 12 by omega) with rfl | rfl | rfl | rfl | rfl | rfl | rfl | rfl | rfl | rfl | rfl | rfl | rfl <;> rfl) (Nat.le_of_ble_eq_true rfl) (Nat.le_of_ble_eq_true rfl) dX5_make_0 (fun q39 H hP hD hS => ?_)
  have hP : va_P (dC, dI) vwCl [(q39, .inr (7, [.null, .int 0, .int 0, .int 0, .null, .null, .int 0, .int 0, .int 0, .int 0, .null, .null, .null]))] H := hP
  have hD : va_D A [(q39, .inr (7, [.null, .int 0, .int 0, .int 0, .null, .null, .int 0, .int 0, .int 0, .int 0, .null, .null, .null]))] := hD
  refine W.widen (k := 1) (n := 13) (Nat.le_of_ble_eq_true rfl) (Nat.le_of_ble_eq_true rfl) ?_
  refine lv_dup hx hb dX5_make_3 rfl ?_
  refine lv_aload_n hx hb dX5_make_4 rfl (lv_at hl 0 rfl) ?_
  refine lv_iload_n hx hb dX5_make_5 rfl (lv_at hl 1 rfl) ?_
  have hPc := hP.sub (ws' := [(q39, .inr (7, [.null, .int 0, .int 0, .int 0, .null, .null, .int 0, .int 0, .int 0, .int 0, .null, .null, .null]))]) [0] rfl
  have hDc := hD.sub (ws' := [(q39, .inr (7, [.null, .int 0, .int 0, .int 0, .null, .null, .int 0, .int 0, .int 0, .int 0, .null, .null, .null]))]) [0] (by decide) rfl
  have hKc := hK.sub (tys' := []) [] rfl
  have hFc := va_free (wc := [(q39, .inr (7, [.null, .int 0, .int 0, .int 0, .null, .null, .int 0, .int 0, .int 0, .int 0, .null, .null, .null]))]) hD hS hA [0] rfl
  refine va_callv (va_runI (As := [.ref h38, .int 2]) (rest := [.ref q39]) ⟨hx, hb, hml, hown, hts⟩ (m_X5_init_0 l dC dI H.size zz q39 h38 (.int 0) (.int 0) (.int 0) (.int 0) (.int 0) (.int 0) .null .null .null) (cwI 2 hts gX5_make_X5_init rfl rfl rfl (hts (.initialized RX5) (by decide +kernel)) (hts (.methodLink RX5 27 yX5_init) (by decide +kernel)) (hts (.instanceMethod yX5_init) (by decide +kernel)) rfl (by decide +kernel) ⟨Nat.le_of_ble_eq_true rfl, Nat.le_of_ble_eq_true rfl⟩) ⟨(fun a U g mk q => by obtain ⟨q0, q1, qP, qK, qD, qZ⟩ := q; exact ⟨q0, q1, qP, va_K.moved (u := U) (U := U.calling g mk a) (Vm.Alike.refl U.vm) qK, qD, SR.moved (u := U) (U := U.calling g mk a) (Vm.Alike.refl U.vm) qZ⟩), (fun U hU hW => ⟨rfl, by rw [hU], by rw [hU]; exact hPc, va_K.moved hW.alike hKc, hDc.weaken (fun _ _ _ _ => trivial), by rw [hU]; exact SR.moved hW.alike (SR.narrow (SR.kept hZ hS.2.1) hFc)⟩)⟩ rfl rfl hl.1 rfl (lv_room (Nat.le_of_ble_eq_true rfl)) dX5_make_6 ⟨(Nat.le_of_ble_eq_true rfl), (Nat.le_of_ble_eq_true rfl)⟩) hS (fun q _ h => hFc q h) hFc (fun u t H1 locs ht hvm hw hB hz1 hk1 hS => ?_)
  obtain ⟨q66, q67⟩ := u
  obtain ⟨hP1, hK1, hD1⟩ := hB
  rw [ht] at hP1
  have hK1 := va_K.moved hvm.symm hK1
  obtain ⟨hP, hD⟩ := va_join (wr := []) (w1 := [(q39, .inr (7, [.ref h38, .int 2, .int 0, .int 0, .ref q66, .ref q67, .int 0, .int 0, .int 0, .int 0, .null, .null, .null])), (q66, .inr (2, [.int 0, .ref (zz 0), .int 0])), (q67, .inr (2, [.int 0, .ref (zz 0), .int 0]))]) hP hD [0] [] rfl rfl (by decide) (by decide) hk1 hFc hP1 hD1
  generalize H1 = H at hP hS ⊢
  have hP : va_P (dC, dI) vwCl [(q39, .inr (7, [.ref h38, .int 2, .int 0, .int 0, .ref q66, .ref q67, .int 0, .int 0, .int 0, .int 0, .null, .null, .null])), (q66, .inr (2, [.int 0, .ref (zz 0), .int 0])), (q67, .inr (2, [.int 0, .ref (zz 0), .int 0]))] H := hP
  have hD : va_D A [(q39, .inr (7, [.ref h38, .int 2, .int 0, .int 0, .ref q66, .ref q67, .int 0, .int 0, .int 0, .int 0, .null, .null, .null])), (q66, .inr (2, [.int 0, .ref (zz 0), .int 0])), (q67, .inr (2, [.int 0, .ref (zz 0), .int 0]))] := hD
  refine W.widen (k := 3) (n := 19) (Nat.le_of_ble_eq_true rfl) (Nat.le_of_ble_eq_true rfl) ?_
  refine lv_astore_n (lv' := [(3, .ref q39), (0, .ref h38), (1, .int 2), (2, .int 5)]) hx hb dX5_make_9 rfl hl (by decide) rfl (fun ls hl => ?_)
  refine lv_aload_n hx hb dX5_make_10 rfl (lv_at hl 0 rfl) ?_
  refine lv_iload_n hx hb dX5_make_11 rfl (lv_at hl 3 rfl) ?_
  refine va_put (D := (dC, dI)) (ci := 7) (v := .int 5) (ty := .int) (C := RX5) (T := TX5) (N := 13) hx hb hts hinX5 tyX5 tyX5_ok nmX5 hown hK hP hD hS 0 rfl rfl 2 (by decide) (hts (.fieldLink RX5 30 "GoalHouse$Proc" "index" "I") (by decide +kernel)) (fun _ h9 => h9) rfl (by decide +kernel) rfl rfl (Nat.le_of_ble_eq_true rfl) dX5_make_12 (fun H locs hP hD hS => ?_)
  have hP : va_P (dC, dI) vwCl [(q39, .inr (7, [.ref h38, .int 2, .int 5, .int 0, .ref q66, .ref q67, .int 0, .int 0, .int 0, .int 0, .null, .null, .null])), (q66, .inr (2, [.int 0, .ref (zz 0), .int 0])), (q67, .inr (2, [.int 0, .ref (zz 0), .int 0]))] H := hP
  have hD : va_D A [(q39, .inr (7, [.ref h38, .int 2, .int 5, .int 0, .ref q66, .ref q67, .int 0, .int 0, .int 0, .int 0, .null, .null, .null])), (q66, .inr (2, [.int 0, .ref (zz 0), .int 0])), (q67, .inr (2, [.int 0, .ref (zz 0), .int 0]))] := hD
  refine lv_aload_n hx hb dX5_make_15 rfl (lv_at hl 0 rfl) ?_
  refine va_new (ci := 13) (fs := [.int 0, .long 0, .null, .null, .int 0, .int 0, .null, .null, .null, .null, .null]) (C := RX11) (T := TX11) (N := 11) hx hb hts hinX11 tyX11 tyX11_ok hown (hts (.classLink RX5 33 RX11) (by decide +kernel)) (hts (.instantiable RX11 11) (by decide +kernel)) (hts (.initialized RX11) (by decide +kernel)) hK hP hD hS hA rfl (fun j hj => by rcases (show j = 0 ∨ j = 1 ∨ j = 2 ∨ j = 3 ∨ j = 4 ∨ j = 5 ∨ j = 6 ∨ j = 7 ∨ j = 8 ∨ j = 9 ∨ j = 10 by omega) with rfl | rfl | rfl | rfl | rfl | rfl | rfl | rfl | rfl | rfl | rfl <;> rfl) (Nat.le_of_ble_eq_true rfl) (Nat.le_of_ble_eq_true rfl) dX5_make_16 (fun q68 H hP hD hS => ?_)
  have hP : va_P (dC, dI) vwCl [(q39, .inr (7, [.ref h38, .int 2, .int 5, .int 0, .ref q66, .ref q67, .int 0, .int 0, .int 0, .int 0, .null, .null, .null])), (q66, .inr (2, [.int 0, .ref (zz 0), .int 0])), (q67, .inr (2, [.int 0, .ref (zz 0), .int 0])), (q68, .inr (13, [.int 0, .long 0, .null, .null, .int 0, .int 0, .null, .null, .null, .null, .null]))] H := hP
  have hD : va_D A [(q39, .inr (7, [.ref h38, .int 2, .int 5, .int 0, .ref q66, .ref q67, .int 0, .int 0, .int 0, .int 0, .null, .null, .null])), (q66, .inr (2, [.int 0, .ref (zz 0), .int 0])), (q67, .inr (2, [.int 0, .ref (zz 0), .int 0])), (q68, .inr (13, [.int 0, .long 0, .null, .null, .int 0, .int 0, .null, .null, .null, .null, .null]))] := hD
  refine W.widen (k := 4) (n := 30) (Nat.le_of_ble_eq_true rfl) (Nat.le_of_ble_eq_true rfl) ?_
  refine lv_dup hx hb dX5_make_19 rfl ?_
  refine lv_iconst (v := 4) hx hb dX5_make_20 (by decide) ?_
  have hPc := hP.sub (ws' := [(q68, .inr (13, [.int 0, .long 0, .null, .null, .int 0, .int 0, .null, .null, .null, .null, .null]))]) [3] rfl
  have hDc := hD.sub (ws' := [(q68, .inr (13, [.int 0, .long 0, .null, .null, .int 0, .int 0, .null, .null, .null, .null, .null]))]) [3] (by decide) rfl
  have hKc := hK.sub (tys' := []) [] rfl
  have hFc := va_free (wc := [(q68, .inr (13, [.int 0, .long 0, .null, .null, .int 0, .int 0, .null, .null, .null, .null, .null]))]) hD hS hA [3] rfl
  refine va_callv (va_runI (As := [.int 4]) (rest := [.ref q68, .ref q39]) ⟨hx, hb, hml, hown, hts⟩ (m_X11_init_0 l dC dI H.size zz q68 (.long 0) .null .null (.int 0) (.int 0) .null .null .null .null .null) (cwI 1 hts gX5_make_X11_init rfl rfl rfl (hts (.initialized RX11) (by decide +kernel)) (hts (.methodLink RX5 35 yX11_init) (by decide +kernel)) (hts (.instanceMethod yX11_init) (by decide +kernel)) rfl (by decide +kernel) ⟨Nat.le_of_ble_eq_true rfl, Nat.le_of_ble_eq_true rfl⟩) ⟨(fun a U g mk q => by obtain ⟨q0, q1, qP, qK, qD, qZ⟩ := q; exact ⟨q0, q1, qP, va_K.moved (u := U) (U := U.calling g mk a) (Vm.Alike.refl U.vm) qK, qD, SR.moved (u := U) (U := U.calling g mk a) (Vm.Alike.refl U.vm) qZ⟩), (fun U hU hW => ⟨rfl, by rw [hU], by rw [hU]; exact hPc, va_K.moved hW.alike hKc, hDc.weaken (fun _ _ _ _ => trivial), by rw [hU]; exact SR.moved hW.alike (SR.narrow (SR.kept hZ hS.2.1) hFc)⟩)⟩ rfl rfl hl.1 rfl (lv_room (Nat.le_of_ble_eq_true rfl)) dX5_make_21 ⟨(Nat.le_of_ble_eq_true rfl), (Nat.le_of_ble_eq_true rfl)⟩) hS (fun q _ h => hFc q h) hFc (fun u t H1 locs ht hvm hw hB hz1 hk1 hS => ?_)
  obtain ⟨hP1, hK1, hD1⟩ := hB
  rw [ht] at hP1
  have hK1 := va_K.moved hvm.symm hK1
  obtain ⟨hP, hD⟩ := va_join (wr := [(q39, .inr (7, [.ref h38, .int 2, .int 5, .int 0, .ref q66, .ref q67, .int 0, .int 0, .int 0, .int 0, .null, .null, .null])), (q66, .inr (2, [.int 0, .ref (zz 0), .int 0])), (q67, .inr (2, [.int 0, .ref (zz 0), .int 0]))]) (w1 := [(q68, .inr (13, [.int 4, .long 0, .null, .null, .int 0, .int 0, .null, .null, .null, .null, .null]))]) hP hD [3] [0, 1, 2] rfl rfl (by decide) (by decide) hk1 hFc hP1 hD1
  generalize H1 = H at hP hS ⊢
  have hP : va_P (dC, dI) vwCl [(q39, .inr (7, [.ref h38, .int 2, .int 5, .int 0, .ref q66, .ref q67, .int 0, .int 0, .int 0, .int 0, .null, .null, .null])), (q66, .inr (2, [.int 0, .ref (zz 0), .int 0])), (q67, .inr (2, [.int 0, .ref (zz 0), .int 0])), (q68, .inr (13, [.int 4, .long 0, .null, .null, .int 0, .int 0, .null, .null, .null, .null, .null]))] H := hP
  have hD : va_D A [(q39, .inr (7, [.ref h38, .int 2, .int 5, .int 0, .ref q66, .ref q67, .int 0, .int 0, .int 0, .int 0, .null, .null, .null])), (q66, .inr (2, [.int 0, .ref (zz 0), .int 0])), (q67, .inr (2, [.int 0, .ref (zz 0), .int 0])), (q68, .inr (13, [.int 4, .long 0, .null, .null, .int 0, .int 0, .null, .null, .null, .null, .null]))] := hD
  refine W.widen (k := 4) (n := 30) (Nat.le_of_ble_eq_true rfl) (Nat.le_of_ble_eq_true rfl) ?_
  refine va_put (D := (dC, dI)) (ci := 7) (v := .ref q68) (ty := (.object "GoalHouse$Val")) (C := RX5) (T := TX5) (N := 13) hx hb hts hinX5 tyX5 tyX5_ok nmX5 hown hK hP hD hS 0 rfl rfl 12 (by decide) (hts (.fieldLink RX5 38 "GoalHouse$Proc" "val" "LGoalHouse$Val;") (by decide +kernel)) (fun _ h9 => h9) rfl (by decide +kernel) rfl rfl (Nat.le_of_ble_eq_true rfl) dX5_make_24 (fun H locs hP hD hS => ?_)
  have hP : va_P (dC, dI) vwCl [(q39, .inr (7, [.ref h38, .int 2, .int 5, .int 0, .ref q66, .ref q67, .int 0, .int 0, .int 0, .int 0, .null, .null, .ref q68])), (q66, .inr (2, [.int 0, .ref (zz 0), .int 0])), (q67, .inr (2, [.int 0, .ref (zz 0), .int 0])), (q68, .inr (13, [.int 4, .long 0, .null, .null, .int 0, .int 0, .null, .null, .null, .null, .null]))] H := hP
  have hD : va_D A [(q39, .inr (7, [.ref h38, .int 2, .int 5, .int 0, .ref q66, .ref q67, .int 0, .int 0, .int 0, .int 0, .null, .null, .ref q68])), (q66, .inr (2, [.int 0, .ref (zz 0), .int 0])), (q67, .inr (2, [.int 0, .ref (zz 0), .int 0])), (q68, .inr (13, [.int 4, .long 0, .null, .null, .int 0, .int 0, .null, .null, .null, .null, .null]))] := hD
  refine lv_aload_n hx hb dX5_make_27 rfl (lv_at hl 0 rfl) ?_
  refine va_get (D := (dC, dI)) (ci := 7) (v := .ref q68) (C := RX5) (T := TX5) (N := 13) hx hb hts hinX5 hown hK hP 0 rfl rfl 12 (by decide) (hts (.fieldLink RX5 38 "GoalHouse$Proc" "val" "LGoalHouse$Val;") (by decide +kernel)) (fun _ h9 => h9) rfl dX5_make_28 ?_
  refine lv_aload_n hx hb dX5_make_31 rfl (lv_at hl 0 rfl) ?_
  refine va_put (D := (dC, dI)) (ci := 13) (v := .ref q39) (ty := (.object "GoalHouse$Proc")) (C := RX11) (T := TX11) (N := 11) hx hb hts hinX11 tyX11 tyX11_ok nmX11 hown hK hP hD hS 3 rfl rfl 10 (by decide) (hts (.fieldLink RX5 42 "GoalHouse$Val" "proc" "LGoalHouse$Proc;") (by decide +kernel)) (fun _ h9 => h9) rfl (by decide +kernel) rfl rfl (Nat.le_of_ble_eq_true rfl) dX5_make_32 (fun H locs hP hD hS => ?_)
  have hP : va_P (dC, dI) vwCl [(q39, .inr (7, [.ref h38, .int 2, .int 5, .int 0, .ref q66, .ref q67, .int 0, .int 0, .int 0, .int 0, .null, .null, .ref q68])), (q66, .inr (2, [.int 0, .ref (zz 0), .int 0])), (q67, .inr (2, [.int 0, .ref (zz 0), .int 0])), (q68, .inr (13, [.int 4, .long 0, .null, .null, .int 0, .int 0, .null, .null, .null, .null, .ref q39]))] H := hP
  have hD : va_D A [(q39, .inr (7, [.ref h38, .int 2, .int 5, .int 0, .ref q66, .ref q67, .int 0, .int 0, .int 0, .int 0, .null, .null, .ref q68])), (q66, .inr (2, [.int 0, .ref (zz 0), .int 0])), (q67, .inr (2, [.int 0, .ref (zz 0), .int 0])), (q68, .inr (13, [.int 4, .long 0, .null, .null, .int 0, .int 0, .null, .null, .null, .null, .ref q39]))] := hD
  refine lv_aload_n hx hb dX5_make_35 rfl (lv_at hl 0 rfl) ?_
  have hP9 := hP.sub (ws' := [(q39, .inr (7, [.ref h38, .int 2, .int 5, .int 0, .ref q66, .ref q67, .int 0, .int 0, .int 0, .int 0, .null, .null, .ref q68])), (q66, .inr (2, [.int 0, .ref (zz 0), .int 0])), (q67, .inr (2, [.int 0, .ref (zz 0), .int 0])), (q68, .inr (13, [.int 4, .long 0, .null, .null, .int 0, .int 0, .null, .null, .null, .null, .ref q39]))]) [0, 1, 2, 3] rfl
  have hD9 := hD.sub (ws' := [(q39, .inr (7, [.ref h38, .int 2, .int 5, .int 0, .ref q66, .ref q67, .int 0, .int 0, .int 0, .int 0, .null, .null, .ref q68])), (q66, .inr (2, [.int 0, .ref (zz 0), .int 0])), (q67, .inr (2, [.int 0, .ref (zz 0), .int 0])), (q68, .inr (13, [.int 4, .long 0, .null, .null, .int 0, .int 0, .null, .null, .null, .null, .ref q39]))]) [0, 1, 2, 3] (by decide) rfl
  have hK9 := hK.sub (tys' := []) [] rfl
  exact W.aret (v := .ref q39) hx hb hr (Or.inl ⟨_, rfl⟩) (Or.inr ⟨_, rfl⟩) (fun t ht hW => ⟨⟨(q66, q67, q68), q39, rfl, trivial, by rw [ht]; exact hP9, va_K.moved hW.alike hK9, hD9⟩, hS.F ht⟩) hS.2.2 dX5_make_36
