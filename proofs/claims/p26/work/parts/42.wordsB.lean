set_option maxHeartbeats 4000000 in
set_option maxRecDepth 100000 in
theorem m_J0_coder_7d493_0 (l : Launch) (dC : Nat → ClassId) (dI : Nat → Nat → Nat) (sz : Nat) (zz : Nat → Nat)      : Met l yJ0_coder_7d493 wsJ0_coder_7d493 ({ frames := 0, cells := 0, slots := 0, locals := 0 }) (va_Pc [.ref (zz 124)] (fun U => U.heap.size = sz ∧ va_P (dC, dI) vwCl [] U.heap ∧ va_K (dC, dI) vwCl [] U ∧ va_D (fun _ => True) [] ∧ SR zz (va_A [] sz) U U.heap)) (va_Qi (fun (r : Int32) (_ : Unit) => r = 0) (fun (u : Unit) t => match u with | () => va_P (dC, dI) vwCl [] t.heap ∧ va_K (dC, dI) vwCl [] t ∧ va_D (va_A [] sz) []) (va_A [] sz)) 0 0 (va_A [] sz) := by
  refine Met.ofW (cc := cJ0_coder_7d493) (maxL := 1) (ret := (some .byte)) (by decide) rfl ?_
  intro p e s m args below meth c s₁ B hml hv
  obtain ⟨rfl, hsz, hP, hK, hD0, hZ⟩ := hv
  have hx := B.exec
  have hb := B.bytes
  have hr := B.returns
  have hts := atoms_spec (ws := wsJ0_coder_7d493) B.pre
  have hown : s.vm.findClass RJ0 = some m.cls := findClass_of_methodNamed B.named
  have hlocks := B.notSynchronized
  subst hsz
  have hD := hD0.self (sz := s.heap.size)
  generalize hAe : va_A [] s.heap.size = A at hD hZ ⊢
  have hA : ∀ q : Nat, s.heap.size ≤ q → A q := fun q h => by rw [← hAe]; exact Or.inr h
  have hS : va_S A s.heap s.heap [] := va_S.rf
  have hl := lv_entry ([.ref (zz 124)]) (n := 1) (Nat.le_of_ble_eq_true rfl)
  rw [lg_entry_eq]
  generalize (lg_sl ([.ref (zz 124)]) ++ List.replicate (1 - (lg_sl ([.ref (zz 124)])).length) Slot.unset).toArray = ls at hl ⊢
  have hl : lv_has ls 1 [(0, .ref (zz 124))] := hl
  refine va_gets hx hb hZ.2.2.1 hS hown (hts (.fieldLink RJ0 38 "java/lang/String" "COMPACT_STRINGS" "Z") (by decide +kernel)) (fun _ h9 => h9) dJ0_coder_7d493_0 ?_
  refine lv_if_eq (tgt := 13) hx hb dJ0_coder_7d493_3 (by decide) (fun cx => absurd cx (show ¬ (1 : Int32) = 0 by decide)) (fun _ => ?_)
  refine lv_aload_n hx hb dJ0_coder_7d493_6 rfl (lv_at hl 0 rfl) ?_
  refine vk_getf (v := .int 0) hx hb (hZ.2.2.2.2.2.2.2.2.1.1 12 (by decide)).2.1 hS hown (hts (.fieldLink RJ0 15 "java/lang/String" "coder" "B") (by decide +kernel)) (fun _ h9 => h9) dJ0_coder_7d493_7 ?_
  refine lv_goto (tgt := 14) hx hb dJ0_coder_7d493_10 (by decide) ?_
  have hP9 := hP.sub (ws' := []) [] rfl
  have hD9 := hD.sub (ws' := []) [] (by decide) rfl
  have hK9 := hK.sub (tys' := []) [] rfl
  exact W.zret (v := 0) hx hb hr (by decide) (fun t ht hW => ⟨⟨0, (), rfl, rfl, by rw [ht]; exact hP9, va_K.moved hW.alike hK9, hD9⟩, hS.F ht⟩) hS.2.2 dJ0_coder_7d493_14
set_option maxHeartbeats 4000000 in
set_option maxRecDepth 100000 in
theorem m_J0_length_8abf5_0 (l : Launch) (dC : Nat → ClassId) (dI : Nat → Nat → Nat) (sz : Nat) (zz : Nat → Nat)      : Met l yJ0_length_8abf5 wsJ0_length_8abf5 ({ frames := 1, cells := 0, slots := 0, locals := 20 }) (va_Pc [.ref (zz 124)] (fun U => U.heap.size = sz ∧ va_P (dC, dI) vwCl [] U.heap ∧ va_K (dC, dI) vwCl [] U ∧ va_D (fun _ => True) [] ∧ SR zz (va_A [] sz) U U.heap)) (va_Qi (fun (r : Int32) (_ : Unit) => r = 154) (fun (u : Unit) t => match u with | () => va_P (dC, dI) vwCl [] t.heap ∧ va_K (dC, dI) vwCl [] t ∧ va_D (va_A [] sz) []) (va_A [] sz)) 0 0 (va_A [] sz) := by
  refine Met.ofW (cc := cJ0_length_8abf5) (maxL := 1) (ret := (some .int)) (by decide) rfl ?_
  intro p e s m args below meth c s₁ B hml hv
  obtain ⟨rfl, hsz, hP, hK, hD0, hZ⟩ := hv
  have hx := B.exec
  have hb := B.bytes
  have hr := B.returns
  have hts := atoms_spec (ws := wsJ0_length_8abf5) B.pre
  have hown : s.vm.findClass RJ0 = some m.cls := findClass_of_methodNamed B.named
  have hlocks := B.notSynchronized
  subst hsz
  have hD := hD0.self (sz := s.heap.size)
  generalize hAe : va_A [] s.heap.size = A at hD hZ ⊢
  have hA : ∀ q : Nat, s.heap.size ≤ q → A q := fun q h => by rw [← hAe]; exact Or.inr h
  have hS : va_S A s.heap s.heap [] := va_S.rf
  have hl := lv_entry ([.ref (zz 124)]) (n := 1) (Nat.le_of_ble_eq_true rfl)
  rw [lg_entry_eq]
  generalize (lg_sl ([.ref (zz 124)]) ++ List.replicate (1 - (lg_sl ([.ref (zz 124)])).length) Slot.unset).toArray = ls at hl ⊢
  have hl : lv_has ls 1 [(0, .ref (zz 124))] := hl
  refine lv_aload_n hx hb dJ0_length_8abf5_0 rfl (lv_at hl 0 rfl) ?_
  refine vk_getf (v := .ref (zz 125)) hx hb (hZ.2.2.2.2.2.2.2.2.1.1 12 (by decide)).2.2.1 hS hown (hts (.fieldLink RJ0 9 "java/lang/String" "value" "[B") (by decide +kernel)) (fun _ h9 => h9) dJ0_length_8abf5_1 ?_
  refine va_tlen (v := 154) hx hb (hZ.2.2.2.2.2.2.2.2.1.1 12 (by decide)).2.2.2 hS (by decide) dJ0_length_8abf5_4 ?_
  refine lv_aload_n hx hb dJ0_length_8abf5_5 rfl (lv_at hl 0 rfl) ?_
  have hPc := hP.sub (ws' := []) [] rfl
  have hDc := hD.sub (ws' := []) [] (by decide) rfl
  have hKc := hK.sub (tys' := []) [] rfl
  have hFc := va_free (wc := []) hD hS hA [] rfl
  refine va_calli (va_runV (As := []) (rest := [.int 154]) ⟨hx, hb, hml, hown, hts⟩ (m_J0_coder_7d493_0 l dC dI s.heap.size zz ) (cwV 0 hts gJ0_length_8abf5_J0_coder_7d493 rfl rfl rfl (by decide +kernel) ⟨Nat.le_of_ble_eq_true rfl, Nat.le_of_ble_eq_true rfl⟩) ⟨(fun a U g mk q => by obtain ⟨q0, q1, qP, qK, qD, qZ⟩ := q; exact ⟨q0, q1, qP, va_K.moved (u := U) (U := U.calling g mk a) (Vm.Alike.refl U.vm) qK, qD, SR.moved (u := U) (U := U.calling g mk a) (State.WarmedH.refl U) qZ⟩), vk_recv hZ.2.2.2.2.2.2.2.2.1 (i := 12) (by decide) hS, (fun U hU hW => ⟨rfl, by rw [hU], by rw [hU]; exact hPc, va_K.moved hW.alike hKc, hDc.weaken (fun _ _ _ _ => trivial), by rw [hU]; exact SR.moved hW (SR.narrow (SR.kept hZ hS.2.1) hFc)⟩)⟩ rfl rfl hl.1 rfl (lv_room (Nat.le_of_ble_eq_true rfl)) dJ0_length_8abf5_6 ⟨(Nat.le_of_ble_eq_true rfl), (Nat.le_of_ble_eq_true rfl)⟩) hS (fun q _ h => hFc q h) hFc (fun ri u t H1 locs ht hvm hw hB hz1 hk1 hS => ?_)
  obtain ⟨hP1, hK1, hD1⟩ := hB
  rw [ht] at hP1
  have hK1 := va_K.moved hvm.symm hK1
  obtain ⟨hP, hD⟩ := va_join (wr := []) (w1 := []) hP hD [] [] rfl rfl (by decide) (by decide) hk1 hFc hP1 hD1
  generalize H1 = H at hP hS ⊢
  have hP : va_P (dC, dI) vwCl [] H := hP
  have hD : va_D A [] := hD
  refine W.widen (k := 0) (n := 0) (Nat.le_of_ble_eq_true rfl) (Nat.le_of_ble_eq_true rfl) ?_
  subst hw
  refine lv_ishr hx hb dJ0_length_8abf5_9 ?_
  refine lv_topi (fun z546 ez546 => ?_)
  have ez546 : z546 = 154 := ez546.trans (by decide)
  subst ez546
  have hP9 := hP.sub (ws' := []) [] rfl
  have hD9 := hD.sub (ws' := []) [] (by decide) rfl
  have hK9 := hK.sub (tys' := []) [] rfl
  exact W.iret (v := 154) hx hb hr (fun t ht hW => ⟨⟨154, (), rfl, rfl, by rw [ht]; exact hP9, va_K.moved hW.alike hK9, hD9⟩, hS.F ht⟩) hS.2.2 dJ0_length_8abf5_10
set_option maxHeartbeats 4000000 in
set_option maxRecDepth 100000 in
theorem m_J0_isLatin1_aae02_0 (l : Launch) (dC : Nat → ClassId) (dI : Nat → Nat → Nat) (sz : Nat) (zz : Nat → Nat)      : Met l yJ0_isLatin1_aae02 wsJ0_isLatin1_aae02 ({ frames := 0, cells := 0, slots := 0, locals := 0 }) (va_Pc [.ref (zz 124)] (fun U => U.heap.size = sz ∧ va_P (dC, dI) vwCl [] U.heap ∧ va_K (dC, dI) vwCl [] U ∧ va_D (fun _ => True) [] ∧ SR zz (va_A [] sz) U U.heap)) (va_Qi (fun (r : Int32) (_ : Unit) => r = 1) (fun (u : Unit) t => match u with | () => va_P (dC, dI) vwCl [] t.heap ∧ va_K (dC, dI) vwCl [] t ∧ va_D (va_A [] sz) []) (va_A [] sz)) 0 0 (va_A [] sz) := by
  refine Met.ofW (cc := cJ0_isLatin1_aae02) (maxL := 1) (ret := (some .boolean)) (by decide) rfl ?_
  intro p e s m args below meth c s₁ B hml hv
  obtain ⟨rfl, hsz, hP, hK, hD0, hZ⟩ := hv
  have hx := B.exec
  have hb := B.bytes
  have hr := B.returns
  have hts := atoms_spec (ws := wsJ0_isLatin1_aae02) B.pre
  have hown : s.vm.findClass RJ0 = some m.cls := findClass_of_methodNamed B.named
  have hlocks := B.notSynchronized
  subst hsz
  have hD := hD0.self (sz := s.heap.size)
  generalize hAe : va_A [] s.heap.size = A at hD hZ ⊢
  have hA : ∀ q : Nat, s.heap.size ≤ q → A q := fun q h => by rw [← hAe]; exact Or.inr h
  have hS : va_S A s.heap s.heap [] := va_S.rf
  have hl := lv_entry ([.ref (zz 124)]) (n := 1) (Nat.le_of_ble_eq_true rfl)
  rw [lg_entry_eq]
  generalize (lg_sl ([.ref (zz 124)]) ++ List.replicate (1 - (lg_sl ([.ref (zz 124)])).length) Slot.unset).toArray = ls at hl ⊢
  have hl : lv_has ls 1 [(0, .ref (zz 124))] := hl
  refine va_gets hx hb hZ.2.2.1 hS hown (hts (.fieldLink RJ0 38 "java/lang/String" "COMPACT_STRINGS" "Z") (by decide +kernel)) (fun _ h9 => h9) dJ0_isLatin1_aae02_0 ?_
  refine lv_if_eq (tgt := 17) hx hb dJ0_isLatin1_aae02_3 (by decide) (fun cx => absurd cx (show ¬ (1 : Int32) = 0 by decide)) (fun _ => ?_)
  refine lv_aload_n hx hb dJ0_isLatin1_aae02_6 rfl (lv_at hl 0 rfl) ?_
  refine vk_getf (v := .int 0) hx hb (hZ.2.2.2.2.2.2.2.2.1.1 12 (by decide)).2.1 hS hown (hts (.fieldLink RJ0 15 "java/lang/String" "coder" "B") (by decide +kernel)) (fun _ h9 => h9) dJ0_isLatin1_aae02_7 ?_
  refine lv_if_ne (tgt := 17) hx hb dJ0_isLatin1_aae02_10 (by decide) (fun cx => absurd (show (0 : Int32) = 0 by decide) cx) (fun _ => ?_)
  refine lv_iconst (v := 1) hx hb dJ0_isLatin1_aae02_13 (by decide) ?_
  refine lv_goto (tgt := 18) hx hb dJ0_isLatin1_aae02_14 (by decide) ?_
  have hP9 := hP.sub (ws' := []) [] rfl
  have hD9 := hD.sub (ws' := []) [] (by decide) rfl
  have hK9 := hK.sub (tys' := []) [] rfl
  exact W.zret (v := 1) hx hb hr (by decide) (fun t ht hW => ⟨⟨1, (), rfl, rfl, by rw [ht]; exact hP9, va_K.moved hW.alike hK9, hD9⟩, hS.F ht⟩) hS.2.2 dJ0_isLatin1_aae02_18
set_option maxHeartbeats 4000000 in
set_option maxRecDepth 100000 in
theorem m_J3_checkIndex_8e157_0 (l : Launch) (dC : Nat → ClassId) (dI : Nat → Nat → Nat) (sz : Nat) (zz : Nat → Nat) (h3 : Nat) (k550 : Nat)  (hi_k550 : k550 ≤ 153)    : Met l yJ3_checkIndex_8e157 wsJ3_checkIndex_8e157 ({ frames := 0, cells := 0, slots := 0, locals := 0 }) (va_Pc [.int (nI k550), .int 154, .ref h3] (fun U => U.heap.size = sz ∧ va_P (dC, dI) vwCl [] U.heap ∧ va_K (dC, dI) vwCl [] U ∧ va_D (fun _ => True) [] ∧ SR zz (va_A [] sz) U U.heap)) (va_Qi (fun (r : Int32) (_ : Unit) => r = nI k550) (fun (u : Unit) t => match u with | () => va_P (dC, dI) vwCl [] t.heap ∧ va_K (dC, dI) vwCl [] t ∧ va_D (va_A [] sz) []) (va_A [] sz)) 0 0 (va_A [] sz) := by
  refine Met.ofW (cc := cJ3_checkIndex_8e157) (maxL := 3) (ret := (some .int)) (by decide) rfl ?_
  intro p e s m args below meth c s₁ B hml hv
  obtain ⟨rfl, hsz, hP, hK, hD0, hZ⟩ := hv
  have hx := B.exec
  have hb := B.bytes
  have hr := B.returns
  have hts := atoms_spec (ws := wsJ3_checkIndex_8e157) B.pre
  have hown : s.vm.findClass RJ3 = some m.cls := findClass_of_methodNamed B.named
  have hlocks := B.notSynchronized
  subst hsz
  have hD := hD0.self (sz := s.heap.size)
  generalize hAe : va_A [] s.heap.size = A at hD hZ ⊢
  have hA : ∀ q : Nat, s.heap.size ≤ q → A q := fun q h => by rw [← hAe]; exact Or.inr h
  have hS : va_S A s.heap s.heap [] := va_S.rf
  have hl := lv_entry ([.int (nI k550), .int 154, .ref h3]) (n := 3) (Nat.le_of_ble_eq_true rfl)
  rw [lg_entry_eq]
  generalize (lg_sl ([.int (nI k550), .int 154, .ref h3]) ++ List.replicate (3 - (lg_sl ([.int (nI k550), .int 154, .ref h3])).length) Slot.unset).toArray = ls at hl ⊢
  have hl : lv_has ls 3 [(0, .int (nI k550)), (1, .int 154), (2, .ref h3)] := hl
  refine lv_iload_n hx hb dJ3_checkIndex_8e157_0 rfl (lv_at hl 0 rfl) ?_
  refine lv_if_lt (tgt := 9) hx hb dJ3_checkIndex_8e157_1 (by decide) (fun cx => absurd cx (nI_nlt (a := k550) (b := 0) (by omega) (by omega))) (fun _ => ?_)
  refine lv_iload_n hx hb dJ3_checkIndex_8e157_4 rfl (lv_at hl 0 rfl) ?_
  refine lv_iload_n hx hb dJ3_checkIndex_8e157_5 rfl (lv_at hl 1 rfl) ?_
  refine lv_icmp_lt (tgt := 16) hx hb dJ3_checkIndex_8e157_6 (by decide) (fun _ => ?_) (fun cx => absurd (nI_lt (a := k550) (b := 154) (by omega) (by decide)) cx)
  refine lv_iload_n hx hb dJ3_checkIndex_8e157_16 rfl (lv_at hl 0 rfl) ?_
  have hP9 := hP.sub (ws' := []) [] rfl
  have hD9 := hD.sub (ws' := []) [] (by decide) rfl
  have hK9 := hK.sub (tys' := []) [] rfl
  exact W.iret (v := (nI k550)) hx hb hr (fun t ht hW => ⟨⟨(nI k550), (), rfl, rfl, by rw [ht]; exact hP9, va_K.moved hW.alike hK9, hD9⟩, hS.F ht⟩) hS.2.2 dJ3_checkIndex_8e157_17
set_option maxHeartbeats 4000000 in
set_option maxRecDepth 100000 in
theorem m_J3_checkIndex_8e157_n (l : Launch) (dC : Nat → ClassId) (dI : Nat → Nat → Nat) (sz : Nat) (zz : Nat → Nat) (k550 : Nat)  (hi_k550 : k550 ≤ 153)    : Met l yJ3_checkIndex_8e157 wsJ3_checkIndex_8e157 ({ frames := 0, cells := 0, slots := 0, locals := 0 }) (va_Pc [.int (nI k550), .int 154, .null] (fun U => U.heap.size = sz ∧ va_P (dC, dI) vwCl [] U.heap ∧ va_K (dC, dI) vwCl [] U ∧ va_D (fun _ => True) [] ∧ SR zz (va_A [] sz) U U.heap)) (va_Qi (fun (r : Int32) (_ : Unit) => r = nI k550) (fun (u : Unit) t => match u with | () => va_P (dC, dI) vwCl [] t.heap ∧ va_K (dC, dI) vwCl [] t ∧ va_D (va_A [] sz) []) (va_A [] sz)) 0 0 (va_A [] sz) := by
  refine Met.ofW (cc := cJ3_checkIndex_8e157) (maxL := 3) (ret := (some .int)) (by decide) rfl ?_
  intro p e s m args below meth c s₁ B hml hv
  obtain ⟨rfl, hsz, hP, hK, hD0, hZ⟩ := hv
  have hx := B.exec
  have hb := B.bytes
  have hr := B.returns
  have hts := atoms_spec (ws := wsJ3_checkIndex_8e157) B.pre
  have hown : s.vm.findClass RJ3 = some m.cls := findClass_of_methodNamed B.named
  have hlocks := B.notSynchronized
  subst hsz
  have hD := hD0.self (sz := s.heap.size)
  generalize hAe : va_A [] s.heap.size = A at hD hZ ⊢
  have hA : ∀ q : Nat, s.heap.size ≤ q → A q := fun q h => by rw [← hAe]; exact Or.inr h
  have hS : va_S A s.heap s.heap [] := va_S.rf
  have hl := lv_entry ([.int (nI k550), .int 154, .null]) (n := 3) (Nat.le_of_ble_eq_true rfl)
  rw [lg_entry_eq]
  generalize (lg_sl ([.int (nI k550), .int 154, .null]) ++ List.replicate (3 - (lg_sl ([.int (nI k550), .int 154, .null])).length) Slot.unset).toArray = ls at hl ⊢
  have hl : lv_has ls 3 [(0, .int (nI k550)), (1, .int 154), (2, .null)] := hl
  refine lv_iload_n hx hb dJ3_checkIndex_8e157_0 rfl (lv_at hl 0 rfl) ?_
  refine lv_if_lt (tgt := 9) hx hb dJ3_checkIndex_8e157_1 (by decide) (fun cx => absurd cx (nI_nlt (a := k550) (b := 0) (by omega) (by omega))) (fun _ => ?_)
  refine lv_iload_n hx hb dJ3_checkIndex_8e157_4 rfl (lv_at hl 0 rfl) ?_
  refine lv_iload_n hx hb dJ3_checkIndex_8e157_5 rfl (lv_at hl 1 rfl) ?_
  refine lv_icmp_lt (tgt := 16) hx hb dJ3_checkIndex_8e157_6 (by decide) (fun _ => ?_) (fun cx => absurd (nI_lt (a := k550) (b := 154) (by omega) (by decide)) cx)
  refine lv_iload_n hx hb dJ3_checkIndex_8e157_16 rfl (lv_at hl 0 rfl) ?_
  have hP9 := hP.sub (ws' := []) [] rfl
  have hD9 := hD.sub (ws' := []) [] (by decide) rfl
  have hK9 := hK.sub (tys' := []) [] rfl
  exact W.iret (v := (nI k550)) hx hb hr (fun t ht hW => ⟨⟨(nI k550), (), rfl, rfl, by rw [ht]; exact hP9, va_K.moved hW.alike hK9, hD9⟩, hS.F ht⟩) hS.2.2 dJ3_checkIndex_8e157_17
set_option maxHeartbeats 4000000 in
set_option maxRecDepth 100000 in
theorem m_J0_checkIndex_df160_0 (l : Launch) (dC : Nat → ClassId) (dI : Nat → Nat → Nat) (sz : Nat) (zz : Nat → Nat) (k549 : Nat)  (hi_k549 : k549 ≤ 153)    : Met l yJ0_checkIndex_df160 wsJ0_checkIndex_df160 ({ frames := 1, cells := 0, slots := 0, locals := 22 }) (va_Pc [.int (nI k549), .int 154] (fun U => U.heap.size = sz ∧ va_P (dC, dI) vwCl [] U.heap ∧ va_K (dC, dI) vwCl [] U ∧ va_D (fun _ => True) [] ∧ SR zz (va_A [] sz) U U.heap)) (va_Qv (fun (_ : Unit) => True) (fun (u : Unit) t => match u with | () => va_P (dC, dI) vwCl [] t.heap ∧ va_K (dC, dI) vwCl [] t ∧ va_D (va_A [] sz) []) (va_A [] sz)) 0 0 (va_A [] sz) := by
  refine Met.ofW (cc := cJ0_checkIndex_df160) (maxL := 2) (ret := none) (by decide) rfl ?_
  intro p e s m args below meth c s₁ B hml hv
  obtain ⟨rfl, hsz, hP, hK, hD0, hZ⟩ := hv
  have hx := B.exec
  have hb := B.bytes
  have hr := B.returns
  have hts := atoms_spec (ws := wsJ0_checkIndex_df160) B.pre
  have hown : s.vm.findClass RJ0 = some m.cls := findClass_of_methodNamed B.named
  have hlocks := B.notSynchronized
  subst hsz
  have hD := hD0.self (sz := s.heap.size)
  generalize hAe : va_A [] s.heap.size = A at hD hZ ⊢
  have hA : ∀ q : Nat, s.heap.size ≤ q → A q := fun q h => by rw [← hAe]; exact Or.inr h
  have hS : va_S A s.heap s.heap [] := va_S.rf
  have hl := lv_entry ([.int (nI k549), .int 154]) (n := 2) (Nat.le_of_ble_eq_true rfl)
  rw [lg_entry_eq]
  generalize (lg_sl ([.int (nI k549), .int 154]) ++ List.replicate (2 - (lg_sl ([.int (nI k549), .int 154])).length) Slot.unset).toArray = ls at hl ⊢
  have hl : lv_has ls 2 [(0, .int (nI k549)), (1, .int 154)] := hl
  refine lv_iload_n hx hb dJ0_checkIndex_df160_0 rfl (lv_at hl 0 rfl) ?_
  refine lv_iload_n hx hb dJ0_checkIndex_df160_1 rfl (lv_at hl 1 rfl) ?_
  rcases hZ.2.2.2.2.2.2.2.1 with h8 | ⟨h3, h8⟩
  · refine va_gets hx hb h8 hS hown (hts (.fieldLink RJ0 1053 "jdk/internal/util/Preconditions" "SIOOBE_FORMATTER" "Ljava/util/function/BiFunction;") (by decide +kernel)) (fun _ h9 => h9) dJ0_checkIndex_df160_2 ?_
    have hPc := hP.sub (ws' := []) [] rfl
    have hDc := hD.sub (ws' := []) [] (by decide) rfl
    have hKc := hK.sub (tys' := []) [] rfl
    have hFc := va_free (wc := []) hD hS hA [] rfl
    refine va_calli (va_runS (As := [.int (nI k549), .int 154, .null]) (rest := []) ⟨hx, hb, hml, hown, hts⟩ (m_J3_checkIndex_8e157_n l dC dI s.heap.size zz k549 (by omega)) (va_cwS 3 hts gJ0_checkIndex_df160_J3_checkIndex_8e157 rfl rfl rfl (by decide +kernel) ⟨Nat.le_of_ble_eq_true rfl, Nat.le_of_ble_eq_true rfl⟩) ⟨(fun a U g mk q => by obtain ⟨q0, q1, qP, qK, qD, qZ⟩ := q; exact ⟨q0, q1, qP, va_K.moved (u := U) (U := U.calling g mk a) (Vm.Alike.refl U.vm) qK, qD, SR.moved (u := U) (U := U.calling g mk a) (State.WarmedH.refl U) qZ⟩), (fun U hU hW => ⟨rfl, by rw [hU], by rw [hU]; exact hPc, va_K.moved hW.alike hKc, hDc.weaken (fun _ _ _ _ => trivial), by rw [hU]; exact SR.moved hW (SR.narrow (SR.kept hZ hS.2.1) hFc)⟩)⟩ rfl rfl hl.1 rfl (lv_room (Nat.le_of_ble_eq_true rfl)) dJ0_checkIndex_df160_5 ⟨(Nat.le_of_ble_eq_true rfl), (Nat.le_of_ble_eq_true rfl)⟩) hS (fun q _ h => hFc q h) hFc (fun ri u t H1 locs ht hvm hw hB hz1 hk1 hS => ?_)
    obtain ⟨hP1, hK1, hD1⟩ := hB
    rw [ht] at hP1
    have hK1 := va_K.moved hvm.symm hK1
    obtain ⟨hP, hD⟩ := va_join (wr := []) (w1 := []) hP hD [] [] rfl rfl (by decide) (by decide) hk1 hFc hP1 hD1
    generalize H1 = H at hP hS ⊢
    have hP : va_P (dC, dI) vwCl [] H := hP
    have hD : va_D A [] := hD
    refine W.widen (k := 0) (n := 0) (Nat.le_of_ble_eq_true rfl) (Nat.le_of_ble_eq_true rfl) ?_
    subst hw
    refine lv_pop hx hb dJ0_checkIndex_df160_8 rfl ?_
    have hP9 := hP.sub (ws' := []) [] rfl
    have hD9 := hD.sub (ws' := []) [] (by decide) rfl
    have hK9 := hK.sub (tys' := []) [] rfl
    exact W.vret hx hb hr (fun t ht hW => ⟨⟨(), rfl, trivial, by rw [ht]; exact hP9, va_K.moved hW.alike hK9, hD9⟩, hS.F ht⟩) hS.2.2 dJ0_checkIndex_df160_9
  · refine va_gets hx hb h8 hS hown (hts (.fieldLink RJ0 1053 "jdk/internal/util/Preconditions" "SIOOBE_FORMATTER" "Ljava/util/function/BiFunction;") (by decide +kernel)) (fun _ h9 => h9) dJ0_checkIndex_df160_2 ?_
    have hPc := hP.sub (ws' := []) [] rfl
    have hDc := hD.sub (ws' := []) [] (by decide) rfl
    have hKc := hK.sub (tys' := []) [] rfl
    have hFc := va_free (wc := []) hD hS hA [] rfl
    refine va_calli (va_runS (As := [.int (nI k549), .int 154, .ref h3]) (rest := []) ⟨hx, hb, hml, hown, hts⟩ (m_J3_checkIndex_8e157_0 l dC dI s.heap.size zz h3 k549 (by omega)) (va_cwS 3 hts gJ0_checkIndex_df160_J3_checkIndex_8e157 rfl rfl rfl (by decide +kernel) ⟨Nat.le_of_ble_eq_true rfl, Nat.le_of_ble_eq_true rfl⟩) ⟨(fun a U g mk q => by obtain ⟨q0, q1, qP, qK, qD, qZ⟩ := q; exact ⟨q0, q1, qP, va_K.moved (u := U) (U := U.calling g mk a) (Vm.Alike.refl U.vm) qK, qD, SR.moved (u := U) (U := U.calling g mk a) (State.WarmedH.refl U) qZ⟩), (fun U hU hW => ⟨rfl, by rw [hU], by rw [hU]; exact hPc, va_K.moved hW.alike hKc, hDc.weaken (fun _ _ _ _ => trivial), by rw [hU]; exact SR.moved hW (SR.narrow (SR.kept hZ hS.2.1) hFc)⟩)⟩ rfl rfl hl.1 rfl (lv_room (Nat.le_of_ble_eq_true rfl)) dJ0_checkIndex_df160_5 ⟨(Nat.le_of_ble_eq_true rfl), (Nat.le_of_ble_eq_true rfl)⟩) hS (fun q _ h => hFc q h) hFc (fun ri u t H1 locs ht hvm hw hB hz1 hk1 hS => ?_)
    obtain ⟨hP1, hK1, hD1⟩ := hB
    rw [ht] at hP1
    have hK1 := va_K.moved hvm.symm hK1
    obtain ⟨hP, hD⟩ := va_join (wr := []) (w1 := []) hP hD [] [] rfl rfl (by decide) (by decide) hk1 hFc hP1 hD1
    generalize H1 = H at hP hS ⊢
    have hP : va_P (dC, dI) vwCl [] H := hP
    have hD : va_D A [] := hD
    refine W.widen (k := 0) (n := 0) (Nat.le_of_ble_eq_true rfl) (Nat.le_of_ble_eq_true rfl) ?_
    subst hw
    refine lv_pop hx hb dJ0_checkIndex_df160_8 rfl ?_
    have hP9 := hP.sub (ws' := []) [] rfl
    have hD9 := hD.sub (ws' := []) [] (by decide) rfl
    have hK9 := hK.sub (tys' := []) [] rfl
    exact W.vret hx hb hr (fun t ht hW => ⟨⟨(), rfl, trivial, by rw [ht]; exact hP9, va_K.moved hW.alike hK9, hD9⟩, hS.F ht⟩) hS.2.2 dJ0_checkIndex_df160_9
set_option maxHeartbeats 4000000 in
set_option maxRecDepth 100000 in
theorem m_J1_charAt_3b067_0 (l : Launch) (dC : Nat → ClassId) (dI : Nat → Nat → Nat) (sz : Nat) (zz : Nat → Nat) (k548 : Nat)  (hi_k548 : k548 ≤ 153)    : Met l yJ1_charAt_3b067 wsJ1_charAt_3b067 ({ frames := 2, cells := 0, slots := 0, locals := 43 }) (va_Pc [.ref (zz 125), .int (nI k548)] (fun U => U.heap.size = sz ∧ va_P (dC, dI) vwCl [] U.heap ∧ va_K (dC, dI) vwCl [] U ∧ va_D (fun _ => True) [] ∧ SR zz (va_A [] sz) U U.heap)) (va_Qi (fun (r : Int32) (_ : Unit) => r = sk_b12.getD k548 0) (fun (u : Unit) t => match u with | () => va_P (dC, dI) vwCl [] t.heap ∧ va_K (dC, dI) vwCl [] t ∧ va_D (va_A [] sz) []) (va_A [] sz)) 0 0 (va_A [] sz) := by
  refine Met.ofW (cc := cJ1_charAt_3b067) (maxL := 2) (ret := (some .char)) (by decide) rfl ?_
  intro p e s m args below meth c s₁ B hml hv
  obtain ⟨rfl, hsz, hP, hK, hD0, hZ⟩ := hv
  have hx := B.exec
  have hb := B.bytes
  have hr := B.returns
  have hts := atoms_spec (ws := wsJ1_charAt_3b067) B.pre
  have hown : s.vm.findClass RJ1 = some m.cls := findClass_of_methodNamed B.named
  have hlocks := B.notSynchronized
  subst hsz
  have hD := hD0.self (sz := s.heap.size)
  generalize hAe : va_A [] s.heap.size = A at hD hZ ⊢
  have hA : ∀ q : Nat, s.heap.size ≤ q → A q := fun q h => by rw [← hAe]; exact Or.inr h
  have hS : va_S A s.heap s.heap [] := va_S.rf
  have hl := lv_entry ([.ref (zz 125), .int (nI k548)]) (n := 2) (Nat.le_of_ble_eq_true rfl)
  rw [lg_entry_eq]
  generalize (lg_sl ([.ref (zz 125), .int (nI k548)]) ++ List.replicate (2 - (lg_sl ([.ref (zz 125), .int (nI k548)])).length) Slot.unset).toArray = ls at hl ⊢
  have hl : lv_has ls 2 [(0, .ref (zz 125)), (1, .int (nI k548))] := hl
  refine lv_iload_n hx hb dJ1_charAt_3b067_0 rfl (lv_at hl 1 rfl) ?_
  refine lv_aload_n hx hb dJ1_charAt_3b067_1 rfl (lv_at hl 0 rfl) ?_
  refine va_tlen (v := 154) hx hb (hZ.2.2.2.2.2.2.2.2.1.1 12 (by decide)).2.2.2 hS (by decide) dJ1_charAt_3b067_2 ?_
  have hPc := hP.sub (ws' := []) [] rfl
  have hDc := hD.sub (ws' := []) [] (by decide) rfl
  have hKc := hK.sub (tys' := []) [] rfl
  have hFc := va_free (wc := []) hD hS hA [] rfl
  refine va_callv (va_runS (As := [.int (nI k548), .int 154]) (rest := []) ⟨hx, hb, hml, hown, hts⟩ (m_J0_checkIndex_df160_0 l dC dI s.heap.size zz k548 (by omega)) (va_cwS 2 hts gJ1_charAt_3b067_J0_checkIndex_df160 rfl rfl rfl (by decide +kernel) ⟨Nat.le_of_ble_eq_true rfl, Nat.le_of_ble_eq_true rfl⟩) ⟨(fun a U g mk q => by obtain ⟨q0, q1, qP, qK, qD, qZ⟩ := q; exact ⟨q0, q1, qP, va_K.moved (u := U) (U := U.calling g mk a) (Vm.Alike.refl U.vm) qK, qD, SR.moved (u := U) (U := U.calling g mk a) (State.WarmedH.refl U) qZ⟩), (fun U hU hW => ⟨rfl, by rw [hU], by rw [hU]; exact hPc, va_K.moved hW.alike hKc, hDc.weaken (fun _ _ _ _ => trivial), by rw [hU]; exact SR.moved hW (SR.narrow (SR.kept hZ hS.2.1) hFc)⟩)⟩ rfl rfl hl.1 rfl (lv_room (Nat.le_of_ble_eq_true rfl)) dJ1_charAt_3b067_3 ⟨(Nat.le_of_ble_eq_true rfl), (Nat.le_of_ble_eq_true rfl)⟩) hS (fun q _ h => hFc q h) hFc (fun u t H1 locs ht hvm hw hB hz1 hk1 hS => ?_)
  obtain ⟨hP1, hK1, hD1⟩ := hB
  rw [ht] at hP1
  have hK1 := va_K.moved hvm.symm hK1
  obtain ⟨hP, hD⟩ := va_join (wr := []) (w1 := []) hP hD [] [] rfl rfl (by decide) (by decide) hk1 hFc hP1 hD1
  generalize H1 = H at hP hS ⊢
  have hP : va_P (dC, dI) vwCl [] H := hP
  have hD : va_D A [] := hD
  refine W.widen (k := 0) (n := 0) (Nat.le_of_ble_eq_true rfl) (Nat.le_of_ble_eq_true rfl) ?_
  refine lv_aload_n hx hb dJ1_charAt_3b067_6 rfl (lv_at hl 0 rfl) ?_
  refine lv_iload_n hx hb dJ1_charAt_3b067_7 rfl (lv_at hl 1 rfl) ?_
  refine va_tb (v := .int (sk_b12.getD k548 0)) hx hb (hZ.2.2.2.2.2.2.2.2.1.1 12 (by decide)).2.2.2 hS (show vp_in (nI k548) 154 from (vp_in_nI (by omega) (by decide))) (by rw [nI_clamp (n := k548) (by omega)]; rfl) dJ1_charAt_3b067_8 ?_
  refine lv_sipush (v := 255) hx hb dJ1_charAt_3b067_9 (by decide) ?_
  refine lv_iand hx hb dJ1_charAt_3b067_12 ?_
  refine lv_i2c (v := ((((sk_b12.getD k548 0) &&& 255).toUInt32 % 65536).toInt32)) hx hb dJ1_charAt_3b067_13 rfl ?_
  refine lv_topi (fun z551 ez551 => ?_)
  have pz551 : ((((sk_b12.getD k548 0) &&& 255).toUInt32 % 65536).toInt32 : Int32) = sk_b12.getD k548 0 := (ch_fit sk_b12 (by decide +kernel) _)
  have ez551 : z551 = sk_b12.getD k548 0 := ez551.trans pz551
  subst ez551
  have hP9 := hP.sub (ws' := []) [] rfl
  have hD9 := hD.sub (ws' := []) [] (by decide) rfl
  have hK9 := hK.sub (tys' := []) [] rfl
  exact W.zret (v := (sk_b12.getD k548 0)) hx hb hr (by rw [← pz551]; exact pk_nc _) (fun t ht hW => ⟨⟨(sk_b12.getD k548 0), (), rfl, rfl, by rw [ht]; exact hP9, va_K.moved hW.alike hK9, hD9⟩, hS.F ht⟩) hS.2.2 dJ1_charAt_3b067_14
set_option maxHeartbeats 4000000 in
set_option maxRecDepth 100000 in
theorem m_J0_charAt_5068e_0 (l : Launch) (dC : Nat → ClassId) (dI : Nat → Nat → Nat) (sz : Nat) (zz : Nat → Nat) (k547 : Nat)  (hi_k547 : k547 ≤ 153)    : Met l yJ0_charAt_5068e wsJ0_charAt_5068e ({ frames := 3, cells := 0, slots := 0, locals := 64 }) (va_Pc [.ref (zz 124), .int (nI k547)] (fun U => U.heap.size = sz ∧ va_P (dC, dI) vwCl [] U.heap ∧ va_K (dC, dI) vwCl [] U ∧ va_D (fun _ => True) [] ∧ SR zz (va_A [] sz) U U.heap)) (va_Qi (fun (r : Int32) (_ : Unit) => r = sk_b12.getD k547 0) (fun (u : Unit) t => match u with | () => va_P (dC, dI) vwCl [] t.heap ∧ va_K (dC, dI) vwCl [] t ∧ va_D (va_A [] sz) []) (va_A [] sz)) 0 0 (va_A [] sz) := by
  refine Met.ofW (cc := cJ0_charAt_5068e) (maxL := 2) (ret := (some .char)) (by decide) rfl ?_
  intro p e s m args below meth c s₁ B hml hv
  obtain ⟨rfl, hsz, hP, hK, hD0, hZ⟩ := hv
  have hx := B.exec
  have hb := B.bytes
  have hr := B.returns
  have hts := atoms_spec (ws := wsJ0_charAt_5068e) B.pre
  have hown : s.vm.findClass RJ0 = some m.cls := findClass_of_methodNamed B.named
  have hlocks := B.notSynchronized
  subst hsz
  have hD := hD0.self (sz := s.heap.size)
  generalize hAe : va_A [] s.heap.size = A at hD hZ ⊢
  have hA : ∀ q : Nat, s.heap.size ≤ q → A q := fun q h => by rw [← hAe]; exact Or.inr h
  have hS : va_S A s.heap s.heap [] := va_S.rf
  have hl := lv_entry ([.ref (zz 124), .int (nI k547)]) (n := 2) (Nat.le_of_ble_eq_true rfl)
  rw [lg_entry_eq]
  generalize (lg_sl ([.ref (zz 124), .int (nI k547)]) ++ List.replicate (2 - (lg_sl ([.ref (zz 124), .int (nI k547)])).length) Slot.unset).toArray = ls at hl ⊢
  have hl : lv_has ls 2 [(0, .ref (zz 124)), (1, .int (nI k547))] := hl
  refine lv_aload_n hx hb dJ0_charAt_5068e_0 rfl (lv_at hl 0 rfl) ?_
  have hPc := hP.sub (ws' := []) [] rfl
  have hDc := hD.sub (ws' := []) [] (by decide) rfl
  have hKc := hK.sub (tys' := []) [] rfl
  have hFc := va_free (wc := []) hD hS hA [] rfl
  refine va_calli (va_runV (As := []) (rest := []) ⟨hx, hb, hml, hown, hts⟩ (m_J0_isLatin1_aae02_0 l dC dI s.heap.size zz ) (cwV 0 hts gJ0_charAt_5068e_J0_isLatin1_aae02 rfl rfl rfl (by decide +kernel) ⟨Nat.le_of_ble_eq_true rfl, Nat.le_of_ble_eq_true rfl⟩) ⟨(fun a U g mk q => by obtain ⟨q0, q1, qP, qK, qD, qZ⟩ := q; exact ⟨q0, q1, qP, va_K.moved (u := U) (U := U.calling g mk a) (Vm.Alike.refl U.vm) qK, qD, SR.moved (u := U) (U := U.calling g mk a) (State.WarmedH.refl U) qZ⟩), vk_recv hZ.2.2.2.2.2.2.2.2.1 (i := 12) (by decide) hS, (fun U hU hW => ⟨rfl, by rw [hU], by rw [hU]; exact hPc, va_K.moved hW.alike hKc, hDc.weaken (fun _ _ _ _ => trivial), by rw [hU]; exact SR.moved hW (SR.narrow (SR.kept hZ hS.2.1) hFc)⟩)⟩ rfl rfl hl.1 rfl (lv_room (Nat.le_of_ble_eq_true rfl)) dJ0_charAt_5068e_1 ⟨(Nat.le_of_ble_eq_true rfl), (Nat.le_of_ble_eq_true rfl)⟩) hS (fun q _ h => hFc q h) hFc (fun ri u t H1 locs ht hvm hw hB hz1 hk1 hS => ?_)
  obtain ⟨hP1, hK1, hD1⟩ := hB
  rw [ht] at hP1
  have hK1 := va_K.moved hvm.symm hK1
  obtain ⟨hP, hD⟩ := va_join (wr := []) (w1 := []) hP hD [] [] rfl rfl (by decide) (by decide) hk1 hFc hP1 hD1
  generalize H1 = H at hP hS ⊢
  have hP : va_P (dC, dI) vwCl [] H := hP
  have hD : va_D A [] := hD
  refine W.widen (k := 0) (n := 0) (Nat.le_of_ble_eq_true rfl) (Nat.le_of_ble_eq_true rfl) ?_
  subst hw
  refine lv_if_eq (tgt := 16) hx hb dJ0_charAt_5068e_4 (by decide) (fun cx => absurd cx (show ¬ (1 : Int32) = 0 by decide)) (fun _ => ?_)
  refine lv_aload_n hx hb dJ0_charAt_5068e_7 rfl (lv_at hl 0 rfl) ?_
  refine vk_getf (v := .ref (zz 125)) hx hb (hZ.2.2.2.2.2.2.2.2.1.1 12 (by decide)).2.2.1 hS hown (hts (.fieldLink RJ0 9 "java/lang/String" "value" "[B") (by decide +kernel)) (fun _ h9 => h9) dJ0_charAt_5068e_8 ?_
  refine lv_iload_n hx hb dJ0_charAt_5068e_11 rfl (lv_at hl 1 rfl) ?_
  have hPc := hP.sub (ws' := []) [] rfl
  have hDc := hD.sub (ws' := []) [] (by decide) rfl
  have hKc := hK.sub (tys' := []) [] rfl
  have hFc := va_free (wc := []) hD hS hA [] rfl
  refine va_calli (va_runS (As := [.ref (zz 125), .int (nI k547)]) (rest := []) ⟨hx, hb, hml, hown, hts⟩ (m_J1_charAt_3b067_0 l dC dI H.size zz k547 (by omega)) (va_cwS 2 hts gJ0_charAt_5068e_J1_charAt_3b067 rfl rfl rfl (by decide +kernel) ⟨Nat.le_of_ble_eq_true rfl, Nat.le_of_ble_eq_true rfl⟩) ⟨(fun a U g mk q => by obtain ⟨q0, q1, qP, qK, qD, qZ⟩ := q; exact ⟨q0, q1, qP, va_K.moved (u := U) (U := U.calling g mk a) (Vm.Alike.refl U.vm) qK, qD, SR.moved (u := U) (U := U.calling g mk a) (State.WarmedH.refl U) qZ⟩), (fun U hU hW => ⟨rfl, by rw [hU], by rw [hU]; exact hPc, va_K.moved hW.alike hKc, hDc.weaken (fun _ _ _ _ => trivial), by rw [hU]; exact SR.moved hW (SR.narrow (SR.kept hZ hS.2.1) hFc)⟩)⟩ rfl rfl hl.1 rfl (lv_room (Nat.le_of_ble_eq_true rfl)) dJ0_charAt_5068e_12 ⟨(Nat.le_of_ble_eq_true rfl), (Nat.le_of_ble_eq_true rfl)⟩) hS (fun q _ h => hFc q h) hFc (fun ri u t H1 locs ht hvm hw hB hz1 hk1 hS => ?_)
  obtain ⟨hP1, hK1, hD1⟩ := hB
  rw [ht] at hP1
  have hK1 := va_K.moved hvm.symm hK1
  obtain ⟨hP, hD⟩ := va_join (wr := []) (w1 := []) hP hD [] [] rfl rfl (by decide) (by decide) hk1 hFc hP1 hD1
  generalize H1 = H at hP hS ⊢
  have hP : va_P (dC, dI) vwCl [] H := hP
  have hD : va_D A [] := hD
  refine W.widen (k := 0) (n := 0) (Nat.le_of_ble_eq_true rfl) (Nat.le_of_ble_eq_true rfl) ?_
  subst hw
  have hP9 := hP.sub (ws' := []) [] rfl
  have hD9 := hD.sub (ws' := []) [] (by decide) rfl
  have hK9 := hK.sub (tys' := []) [] rfl
  exact W.zret (v := (sk_b12.getD k547 0)) hx hb hr (ch_nar sk_b12 (by decide +kernel) _) (fun t ht hW => ⟨⟨(sk_b12.getD k547 0), (), rfl, rfl, by rw [ht]; exact hP9, va_K.moved hW.alike hK9, hD9⟩, hS.F ht⟩) hS.2.2 dJ0_charAt_5068e_15
set_option maxHeartbeats 4000000 in
set_option maxRecDepth 100000 in
theorem m_X12_sameBytes_0 (l : Launch) (dC : Nat → ClassId) (dI : Nat → Nat → Nat) (sz : Nat) (zz : Nat → Nat) (k560 : Nat) (h561 : Nat) (k562 : Nat) (k563 : Nat) (cA564 : ClassId) (f565 : Nat → Int32)  (pr_0 : k560 + k563 ≤ 154) (pr_1 : k562 + k563 ≤ 8000) (pr_2 : k563 ≤ 1000) (pr_3 : k562 ≤ 1000000) (pr_4 : k560 ≤ 1000)   : Met l yX12_sameBytes wsX12_sameBytes ({ frames := 4, cells := 0, slots := 0, locals := 85 }) (va_Pc [.ref (zz 124), .int (nI k560), .ref h561, .int (nI k562), .int (nI k563)] (fun U => U.heap.size = sz ∧ va_P (dC, dI) vwCl [(h561, .inl (cA564, 8000, .inl f565))] U.heap ∧ va_K (dC, dI) vwCl [(cA564, .byte)] U ∧ va_D (fun _ => True) [(h561, .inl (cA564, 8000, .inl f565))] ∧ SR zz (va_A [(h561, .inl (cA564, 8000, .inl f565))] sz) U U.heap)) (va_Qi (fun (r : Int32) (_ : Unit) => r = sbI sk_b12 f565 k560 k562 k563) (fun (u : Unit) t => match u with | () => va_P (dC, dI) vwCl [(h561, .inl (cA564, 8000, .inl f565))] t.heap ∧ va_K (dC, dI) vwCl [(cA564, .byte)] t ∧ va_D (va_A [(h561, .inl (cA564, 8000, .inl f565))] sz) [(h561, .inl (cA564, 8000, .inl f565))]) (va_A [(h561, .inl (cA564, 8000, .inl f565))] sz)) 0 0 (va_A [(h561, .inl (cA564, 8000, .inl f565))] sz) := by
  refine Met.ofW (cc := cX12_sameBytes) (maxL := 6) (ret := (some .boolean)) (by decide) rfl ?_
  intro p e s m args below meth c s₁ B hml hv
  obtain ⟨rfl, hsz, hP, hK, hD0, hZ⟩ := hv
  have hx := B.exec
  have hb := B.bytes
  have hr := B.returns
  have hts := atoms_spec (ws := wsX12_sameBytes) B.pre
  have hown : s.vm.findClass RX12 = some m.cls := findClass_of_methodNamed B.named
  have hlocks := B.notSynchronized
  subst hsz
  have hD := hD0.self (sz := s.heap.size)
  generalize hAe : va_A [(h561, .inl (cA564, 8000, .inl f565))] s.heap.size = A at hD hZ ⊢
  have hA : ∀ q : Nat, s.heap.size ≤ q → A q := fun q h => by rw [← hAe]; exact Or.inr h
  have hS : va_S A s.heap s.heap [] := va_S.rf
  have hl := lv_entry ([.ref (zz 124), .int (nI k560), .ref h561, .int (nI k562), .int (nI k563)]) (n := 6) (Nat.le_of_ble_eq_true rfl)
  rw [lg_entry_eq]
  generalize (lg_sl ([.ref (zz 124), .int (nI k560), .ref h561, .int (nI k562), .int (nI k563)]) ++ List.replicate (6 - (lg_sl ([.ref (zz 124), .int (nI k560), .ref h561, .int (nI k562), .int (nI k563)])).length) Slot.unset).toArray = ls at hl ⊢
  have hl : lv_has ls 6 [(0, .ref (zz 124)), (1, .int (nI k560)), (2, .ref h561), (3, .int (nI k562)), (4, .int (nI k563))] := hl
  refine lv_iload_n hx hb dX12_sameBytes_0 rfl (lv_at hl 1 rfl) ?_
  refine lv_iload hx hb dX12_sameBytes_1 (lv_at hl 4 rfl) ?_
  refine lv_iadd hx hb dX12_sameBytes_3 ?_
  refine lv_topi (fun z566 ez566 => ?_)
  have ez566 : z566 = nI (k560 + k563) := ez566.trans (nI_add k560 k563)
  subst ez566
  refine lv_aload_n hx hb dX12_sameBytes_4 rfl (lv_at hl 0 rfl) ?_
  have hPc := hP.sub (ws' := []) [] rfl
  have hDc := hD.sub (ws' := []) [] (by decide) rfl
  have hKc := hK.sub (tys' := []) [] rfl
  have hFc := va_free (wc := []) hD hS hA [] rfl
  refine va_calli (va_runV (As := []) (rest := [.int (nI (k560 + k563))]) ⟨hx, hb, hml, hown, hts⟩ (m_J0_length_8abf5_0 l dC dI s.heap.size zz ) (cwV 0 hts gX12_sameBytes_J0_length_8abf5 rfl rfl rfl (by decide +kernel) ⟨Nat.le_of_ble_eq_true rfl, Nat.le_of_ble_eq_true rfl⟩) ⟨(fun a U g mk q => by obtain ⟨q0, q1, qP, qK, qD, qZ⟩ := q; exact ⟨q0, q1, qP, va_K.moved (u := U) (U := U.calling g mk a) (Vm.Alike.refl U.vm) qK, qD, SR.moved (u := U) (U := U.calling g mk a) (State.WarmedH.refl U) qZ⟩), vk_recv hZ.2.2.2.2.2.2.2.2.1 (i := 12) (by decide) hS, (fun U hU hW => ⟨rfl, by rw [hU], by rw [hU]; exact hPc, va_K.moved hW.alike hKc, hDc.weaken (fun _ _ _ _ => trivial), by rw [hU]; exact SR.moved hW (SR.narrow (SR.kept hZ hS.2.1) hFc)⟩)⟩ rfl rfl hl.1 rfl (lv_room (Nat.le_of_ble_eq_true rfl)) dX12_sameBytes_5 ⟨(Nat.le_of_ble_eq_true rfl), (Nat.le_of_ble_eq_true rfl)⟩) hS (fun q _ h => hFc q h) hFc (fun ri u t H1 locs ht hvm hw hB hz1 hk1 hS => ?_)
  obtain ⟨hP1, hK1, hD1⟩ := hB
  rw [ht] at hP1
  have hK1 := va_K.moved hvm.symm hK1
  obtain ⟨hP, hD⟩ := va_join (wr := [(h561, .inl (cA564, 8000, .inl f565))]) (w1 := []) hP hD [] [0] rfl rfl (by decide) (by decide) hk1 hFc hP1 hD1
  generalize H1 = H at hP hS ⊢
  have hP : va_P (dC, dI) vwCl [(h561, .inl (cA564, 8000, .inl f565))] H := hP
  have hD : va_D A [(h561, .inl (cA564, 8000, .inl f565))] := hD
  refine W.widen (k := 0) (n := 0) (Nat.le_of_ble_eq_true rfl) (Nat.le_of_ble_eq_true rfl) ?_
  subst hw
  refine lv_icmp_gt (tgt := 24) hx hb dX12_sameBytes_8 (by decide) (fun cx => absurd cx (nI_nlt (a := 154) (b := (k560 + k563)) (by omega) (by decide))) (fun _ => ?_)
  refine lv_iload_n hx hb dX12_sameBytes_11 rfl (lv_at hl 3 rfl) ?_
  refine lv_if_lt (tgt := 24) hx hb dX12_sameBytes_12 (by decide) (fun cx => absurd cx (nI_nlt (a := k562) (b := 0) (by omega) (by omega))) (fun _ => ?_)
  refine lv_iload_n hx hb dX12_sameBytes_15 rfl (lv_at hl 3 rfl) ?_
  refine lv_iload hx hb dX12_sameBytes_16 (lv_at hl 4 rfl) ?_
  refine lv_iadd hx hb dX12_sameBytes_18 ?_
  refine lv_topi (fun z568 ez568 => ?_)
  have ez568 : z568 = nI (k562 + k563) := ez568.trans (nI_add k562 k563)
  subst ez568
  refine lv_aload_n hx hb dX12_sameBytes_19 rfl (lv_at hl 2 rfl) ?_
  refine va_alen (v := 8000) hx hb hK hP 0 0 rfl rfl rfl dX12_sameBytes_20 ?_
  refine lv_icmp_le (tgt := 26) hx hb dX12_sameBytes_21 (by decide) (fun _ => ?_) (fun cx => absurd (nI_le (a := (k562 + k563)) (b := 8000) (by omega) (by decide)) cx)
  refine lv_iconst (v := 0) hx hb dX12_sameBytes_26 (by decide) ?_
  refine lv_istore (lv' := [(5, .int 0), (0, .ref (zz 124)), (1, .int (nI k560)), (2, .ref h561), (3, .int (nI k562)), (4, .int (nI k563))]) hx hb dX12_sameBytes_27 hl (by decide) rfl (fun ls hl => ?_)
  refine lp_up (σ := Unit) (fun (k570 : Nat) (a : Unit) H locs ls => match a with | () => (∀ t, t < k570 → sk_b12.getD (k560 + t) 0 = f565 (k562 + t) &&& 255) ∧ va_P (dC, dI) vwCl [(h561, .inl (cA564, 8000, .inl f565))] H ∧ va_D A [(h561, .inl (cA564, 8000, .inl f565))] ∧ va_S A s.heap H locs ∧ lv_has ls 6 [(5, .int (nI k570)), (0, .ref (zz 124)), (1, .int (nI k560)), (2, .ref h561), (3, .int (nI k562)), (4, .int (nI k563))]) (fun _ => 0) (fun _ => 0) (hi := k563) ?_ ?_ (k := 0) (by omega) (a := ()) ⟨(fun t h => absurd h (Nat.not_lt_zero t)), hP, hD, hS, lv_sub hl [0, 1, 2, 3, 4, 5] rfl⟩
  · intro k570 a H locs ls hk ⟨hv, hP, hD, hS, hl⟩ ih
    refine W.widen (k := 0 + 0) (n := 0 + 0) (by omega) (by omega) ?_
    refine lv_iload hx hb dX12_sameBytes_29 (lv_at hl 0 rfl) ?_
    refine lv_iload hx hb dX12_sameBytes_31 (lv_at hl 5 rfl) ?_
    refine lv_icmp_ge (tgt := 65) hx hb dX12_sameBytes_33 (by decide) (fun cx => absurd cx (nI_ge (a := k570) (b := k563) (by omega) (by omega))) (fun _ => ?_)
    refine lv_aload_n hx hb dX12_sameBytes_36 rfl (lv_at hl 1 rfl) ?_
    refine lv_iload_n hx hb dX12_sameBytes_37 rfl (lv_at hl 2 rfl) ?_
    refine lv_iload hx hb dX12_sameBytes_38 (lv_at hl 0 rfl) ?_
    refine lv_iadd hx hb dX12_sameBytes_40 ?_
    refine lv_topi (fun z571 ez571 => ?_)
    have ez571 : z571 = nI (k560 + k570) := ez571.trans (nI_add k560 k570)
    subst ez571
    have hPc := hP.sub (ws' := []) [] rfl
    have hDc := hD.sub (ws' := []) [] (by decide) rfl
    have hKc := hK.sub (tys' := []) [] rfl
    have hFc := va_free (wc := []) hD hS hA [] rfl
    refine va_calli (va_runV (As := [.int (nI (k560 + k570))]) (rest := []) ⟨hx, hb, hml, hown, hts⟩ (m_J0_charAt_5068e_0 l dC dI H.size zz (k560 + k570) (by omega)) (cwV 1 hts gX12_sameBytes_J0_charAt_5068e rfl rfl rfl (by decide +kernel) ⟨Nat.le_of_ble_eq_true rfl, Nat.le_of_ble_eq_true rfl⟩) ⟨(fun a U g mk q => by obtain ⟨q0, q1, qP, qK, qD, qZ⟩ := q; exact ⟨q0, q1, qP, va_K.moved (u := U) (U := U.calling g mk a) (Vm.Alike.refl U.vm) qK, qD, SR.moved (u := U) (U := U.calling g mk a) (State.WarmedH.refl U) qZ⟩), vk_recv hZ.2.2.2.2.2.2.2.2.1 (i := 12) (by decide) hS, (fun U hU hW => ⟨rfl, by rw [hU], by rw [hU]; exact hPc, va_K.moved hW.alike hKc, hDc.weaken (fun _ _ _ _ => trivial), by rw [hU]; exact SR.moved hW (SR.narrow (SR.kept hZ hS.2.1) hFc)⟩)⟩ rfl rfl hl.1 rfl (lv_room (Nat.le_of_ble_eq_true rfl)) dX12_sameBytes_41 ⟨(by show _ ≤ 0; omega), (by show _ ≤ 0; omega)⟩) hS (fun q _ h => hFc q h) hFc (fun ri u t H1 locs ht hvm hw hB hz1 hk1 hS => ?_)
    obtain ⟨hP1, hK1, hD1⟩ := hB
    rw [ht] at hP1
    have hK1 := va_K.moved hvm.symm hK1
    obtain ⟨hP, hD⟩ := va_join (wr := [(h561, .inl (cA564, 8000, .inl f565))]) (w1 := []) hP hD [] [0] rfl rfl (by decide) (by decide) hk1 hFc hP1 hD1
    generalize H1 = H at hP hS ⊢
    have hP : va_P (dC, dI) vwCl [(h561, .inl (cA564, 8000, .inl f565))] H := hP
    have hD : va_D A [(h561, .inl (cA564, 8000, .inl f565))] := hD
    refine W.widen (k := 0 + 0) (n := 0 + 0) (by omega) (by omega) ?_
    subst hw
    refine lv_aload_n hx hb dX12_sameBytes_44 rfl (lv_at hl 3 rfl) ?_
    refine lv_iload_n hx hb dX12_sameBytes_45 rfl (lv_at hl 4 rfl) ?_
    refine lv_iload hx hb dX12_sameBytes_46 (lv_at hl 0 rfl) ?_
    refine lv_iadd hx hb dX12_sameBytes_48 ?_
    refine lv_topi (fun z573 ez573 => ?_)
    have ez573 : z573 = nI (k562 + k570) := ez573.trans (nI_add k562 k570)
    subst ez573
    refine va_bald hx hb hK hP 0 0 rfl rfl (vp_in_nI (by omega) (by decide)) dX12_sameBytes_49 ?_
    refine lv_topi (fun z574 ez574 => ?_)
    have ez574 : z574 = f565 (k562 + k570) := ez574.trans (by rw [nI_clamp (n := (k562 + k570)) (by omega)])
    subst ez574
    refine lv_sipush (v := 255) hx hb dX12_sameBytes_50 (by decide) ?_
    refine lv_iand hx hb dX12_sameBytes_53 ?_
    refine lv_icmp_eq (tgt := 59) hx hb dX12_sameBytes_54 (by decide) (fun cs575 => ?_) (fun cs575 => ?_)
    · refine lv_iinc (v := (nI (k570 + 1))) (lv' := [(5, .int (nI (k570 + 1))), (0, .ref (zz 124)), (1, .int (nI k560)), (2, .ref h561), (3, .int (nI k562)), (4, .int (nI k563))]) hx hb dX12_sameBytes_59 hl (k := 0) rfl (nI_1 k570) (by decide) rfl (fun ls hl => ?_)
      refine lv_goto (tgt := 29) hx hb dX12_sameBytes_62 (by decide) ?_
      refine W.widen (k := 0 + 0) (n := 0 + 0) (by omega) (by omega) ?_
      exact ih () _ _ _ ⟨(fun t h => by rcases Nat.lt_succ_iff_lt_or_eq.mp h with q | q; exact hv t q; subst q; assumption), hP.sub [0] rfl, hD.sub [0] (by decide) rfl, hS, lv_sub hl [0, 1, 2, 3, 4, 5] rfl⟩
    · refine lv_iconst (v := 0) hx hb dX12_sameBytes_57 (by decide) ?_
      refine W.widen (k := 0) (n := 0) (by omega) (by omega) ?_
      refine lv_topi (fun z576 ez576 => ?_)
      have pz576 : (0 : Int32) = sbI sk_b12 f565 k560 k562 k563 := (by unfold sbI; rw [if_neg (fun q => absurd (q _ hk) (by assumption))])
      have ez576 : z576 = sbI sk_b12 f565 k560 k562 k563 := ez576.trans pz576
      subst ez576
      have hP9 := hP.sub (ws' := [(h561, .inl (cA564, 8000, .inl f565))]) [0] rfl
      have hD9 := hD.sub (ws' := [(h561, .inl (cA564, 8000, .inl f565))]) [0] (by decide) rfl
      have hK9 := hK.sub (tys' := [(cA564, .byte)]) [0] rfl
      exact W.zret (v := (sbI sk_b12 f565 k560 k562 k563)) hx hb hr (by rw [← pz576]; decide) (fun t ht hW => ⟨⟨(sbI sk_b12 f565 k560 k562 k563), (), rfl, rfl, by rw [ht]; exact hP9, va_K.moved hW.alike hK9, hD9⟩, hS.F ht⟩) hS.2.2 dX12_sameBytes_58
  · intro a H locs ls ⟨hv, hP, hD, hS, hl⟩
    have hl : lv_has ls 6 [(5, .int (nI k563)), (0, .ref (zz 124)), (1, .int (nI k560)), (2, .ref h561), (3, .int (nI k562)), (4, .int (nI k563))] := hl
    have hP : va_P (dC, dI) vwCl [(h561, .inl (cA564, 8000, .inl f565))] H := hP
    have hD : va_D A [(h561, .inl (cA564, 8000, .inl f565))] := hD
    refine W.widen (k := 0) (n := 0) (Nat.le_of_ble_eq_true rfl) (Nat.le_of_ble_eq_true rfl) ?_
    refine lv_iload hx hb dX12_sameBytes_29 (lv_at hl 0 rfl) ?_
    refine lv_iload hx hb dX12_sameBytes_31 (lv_at hl 5 rfl) ?_
    refine lv_icmp_ge (tgt := 65) hx hb dX12_sameBytes_33 (by decide) (fun _ => ?_) (fun cx => absurd (nI_le (a := k563) (b := k563) (by omega) (by omega)) cx)
    refine lv_iconst (v := 1) hx hb dX12_sameBytes_65 (by decide) ?_
    refine lv_topi (fun z577 ez577 => ?_)
    have pz577 : (1 : Int32) = sbI sk_b12 f565 k560 k562 k563 := (by unfold sbI; rw [if_pos hv])
    have ez577 : z577 = sbI sk_b12 f565 k560 k562 k563 := ez577.trans pz577
    subst ez577
    have hP9 := hP.sub (ws' := [(h561, .inl (cA564, 8000, .inl f565))]) [0] rfl
    have hD9 := hD.sub (ws' := [(h561, .inl (cA564, 8000, .inl f565))]) [0] (by decide) rfl
    have hK9 := hK.sub (tys' := [(cA564, .byte)]) [0] rfl
    exact W.zret (v := (sbI sk_b12 f565 k560 k562 k563)) hx hb hr (by rw [← pz577]; decide) (fun t ht hW => ⟨⟨(sbI sk_b12 f565 k560 k562 k563), (), rfl, rfl, by rw [ht]; exact hP9, va_K.moved hW.alike hK9, hD9⟩, hS.F ht⟩) hS.2.2 dX12_sameBytes_66
set_option maxHeartbeats 4000000 in
set_option maxRecDepth 100000 in
theorem m_X12_wordIn_0 (l : Launch) (dC : Nat → ClassId) (dI : Nat → Nat → Nat) (sz : Nat) (zz : Nat → Nat) (h269 : Nat) (k270 : Nat) (k271 : Nat) (cA272 : ClassId) (f273 : Nat → Int32)  (pr_0 : k270 + k271 ≤ 8000) (pr_1 : k271 ≤ 1000) (pr_2 : k270 ≤ 1000000)   : Met l yX12_wordIn wsX12_wordIn ({ frames := 5, cells := 0, slots := 0, locals := 110 }) (va_Pc [.ref (zz 124), .ref h269, .int (nI k270), .int (nI k271)] (fun U => U.heap.size = sz ∧ va_P (dC, dI) vwCl [(h269, .inl (cA272, 8000, .inl f273))] U.heap ∧ va_K (dC, dI) vwCl [(cA272, .byte)] U ∧ va_D (fun _ => True) [(h269, .inl (cA272, 8000, .inl f273))] ∧ SR zz (va_A [(h269, .inl (cA272, 8000, .inl f273))] sz) U U.heap)) (va_Qi (fun (r : Int32) (_ : Unit) => r = wl sk_b12 f273 k270 k271) (fun (u : Unit) t => match u with | () => va_P (dC, dI) vwCl [(h269, .inl (cA272, 8000, .inl f273))] t.heap ∧ va_K (dC, dI) vwCl [(cA272, .byte)] t ∧ va_D (va_A [(h269, .inl (cA272, 8000, .inl f273))] sz) [(h269, .inl (cA272, 8000, .inl f273))]) (va_A [(h269, .inl (cA272, 8000, .inl f273))] sz)) 0 0 (va_A [(h269, .inl (cA272, 8000, .inl f273))] sz) := by
  refine Met.ofW (cc := cX12_wordIn) (maxL := 7) (ret := (some .int)) (by decide) rfl ?_
  intro p e s m args below meth c s₁ B hml hv
  obtain ⟨rfl, hsz, hP, hK, hD0, hZ⟩ := hv
  have hx := B.exec
  have hb := B.bytes
  have hr := B.returns
  have hts := atoms_spec (ws := wsX12_wordIn) B.pre
  have hown : s.vm.findClass RX12 = some m.cls := findClass_of_methodNamed B.named
  have hlocks := B.notSynchronized
  subst hsz
  have hD := hD0.self (sz := s.heap.size)
  generalize hAe : va_A [(h269, .inl (cA272, 8000, .inl f273))] s.heap.size = A at hD hZ ⊢
  have hA : ∀ q : Nat, s.heap.size ≤ q → A q := fun q h => by rw [← hAe]; exact Or.inr h
  have hS : va_S A s.heap s.heap [] := va_S.rf
  have hl := lv_entry ([.ref (zz 124), .ref h269, .int (nI k270), .int (nI k271)]) (n := 7) (Nat.le_of_ble_eq_true rfl)
  rw [lg_entry_eq]
  generalize (lg_sl ([.ref (zz 124), .ref h269, .int (nI k270), .int (nI k271)]) ++ List.replicate (7 - (lg_sl ([.ref (zz 124), .ref h269, .int (nI k270), .int (nI k271)])).length) Slot.unset).toArray = ls at hl ⊢
  have hl : lv_has ls 7 [(0, .ref (zz 124)), (1, .ref h269), (2, .int (nI k270)), (3, .int (nI k271))] := hl
  refine lv_iconst (v := 0) hx hb dX12_wordIn_0 (by decide) ?_
  refine lv_istore (lv' := [(4, .int 0), (0, .ref (zz 124)), (1, .ref h269), (2, .int (nI k270)), (3, .int (nI k271))]) hx hb dX12_wordIn_1 hl (by decide) rfl (fun ls hl => ?_)
  refine lv_iconst (v := 0) hx hb dX12_wordIn_3 (by decide) ?_
  refine lv_istore (lv' := [(5, .int 0), (4, .int 0), (0, .ref (zz 124)), (1, .ref h269), (2, .int (nI k270)), (3, .int (nI k271))]) hx hb dX12_wordIn_4 hl (by decide) rfl (fun ls hl => ?_)
  refine lv_iconst (v := 0) hx hb dX12_wordIn_6 (by decide) ?_
  refine lv_istore (lv' := [(6, .int 0), (5, .int 0), (4, .int 0), (0, .ref (zz 124)), (1, .ref h269), (2, .int (nI k270)), (3, .int (nI k271))]) hx hb dX12_wordIn_7 hl (by decide) rfl (fun ls hl => ?_)
  refine lp_up (σ := (Nat) × (Nat)) (fun (k542 : Nat) (a : (Nat) × (Nat)) H locs ls => match a with | (k543, k544) => k543 ≤ k542 ∧ k544 ≤ k542 ∧ (wlk sk_b12 f273 k270 k271 (154 - k542) k542 k544 k543 = wl sk_b12 f273 k270 k271) ∧ va_P (dC, dI) vwCl [(h269, .inl (cA272, 8000, .inl f273))] H ∧ va_D A [(h269, .inl (cA272, 8000, .inl f273))] ∧ va_S A s.heap H locs ∧ lv_has ls 7 [(6, .int (nI k542)), (5, .int (nI k543)), (4, .int (nI k544)), (0, .ref (zz 124)), (1, .ref h269), (2, .int (nI k270)), (3, .int (nI k271))]) (fun _ => 0) (fun _ => 0) (hi := 154) ?_ ?_ (k := 0) (by decide) (a := (0, 0)) ⟨(by decide), (by decide), (by unfold wl; rfl), hP, hD, hS, lv_sub hl [0, 1, 2, 3, 4, 5, 6] rfl⟩
  · intro k542 a H locs ls hk hI ih
    obtain ⟨k543, k544⟩ := a
    obtain ⟨hn_k543, hn_k544, hv, hP, hD, hS, hl⟩ := hI
    refine W.widen (k := 0 + 0) (n := 0 + 0) (by omega) (by omega) ?_
    refine lv_iload hx hb dX12_wordIn_9 (lv_at hl 0 rfl) ?_
    refine lv_aload_n hx hb dX12_wordIn_11 rfl (lv_at hl 3 rfl) ?_
    have hPc := hP.sub (ws' := []) [] rfl
    have hDc := hD.sub (ws' := []) [] (by decide) rfl
    have hKc := hK.sub (tys' := []) [] rfl
    have hFc := va_free (wc := []) hD hS hA [] rfl
    refine va_calli (va_runV (As := []) (rest := [.int (nI k542)]) ⟨hx, hb, hml, hown, hts⟩ (m_J0_length_8abf5_0 l dC dI H.size zz ) (cwV 0 hts gX12_wordIn_J0_length_8abf5 rfl rfl rfl (by decide +kernel) ⟨Nat.le_of_ble_eq_true rfl, Nat.le_of_ble_eq_true rfl⟩) ⟨(fun a U g mk q => by obtain ⟨q0, q1, qP, qK, qD, qZ⟩ := q; exact ⟨q0, q1, qP, va_K.moved (u := U) (U := U.calling g mk a) (Vm.Alike.refl U.vm) qK, qD, SR.moved (u := U) (U := U.calling g mk a) (State.WarmedH.refl U) qZ⟩), vk_recv hZ.2.2.2.2.2.2.2.2.1 (i := 12) (by decide) hS, (fun U hU hW => ⟨rfl, by rw [hU], by rw [hU]; exact hPc, va_K.moved hW.alike hKc, hDc.weaken (fun _ _ _ _ => trivial), by rw [hU]; exact SR.moved hW (SR.narrow (SR.kept hZ hS.2.1) hFc)⟩)⟩ rfl rfl hl.1 rfl (lv_room (Nat.le_of_ble_eq_true rfl)) dX12_wordIn_12 ⟨(by show _ ≤ 0; omega), (by show _ ≤ 0; omega)⟩) hS (fun q _ h => hFc q h) hFc (fun ri u t H1 locs ht hvm hw hB hz1 hk1 hS => ?_)
    obtain ⟨hP1, hK1, hD1⟩ := hB
    rw [ht] at hP1
    have hK1 := va_K.moved hvm.symm hK1
    obtain ⟨hP, hD⟩ := va_join (wr := [(h269, .inl (cA272, 8000, .inl f273))]) (w1 := []) hP hD [] [0] rfl rfl (by decide) (by decide) hk1 hFc hP1 hD1
    generalize H1 = H at hP hS ⊢
    have hP : va_P (dC, dI) vwCl [(h269, .inl (cA272, 8000, .inl f273))] H := hP
    have hD : va_D A [(h269, .inl (cA272, 8000, .inl f273))] := hD
    refine W.widen (k := 0 + 0) (n := 0 + 0) (by omega) (by omega) ?_
    subst hw
    refine lv_icmp_ge (tgt := 68) hx hb dX12_wordIn_15 (by decide) (fun cx => absurd cx (nI_ge (a := k542) (b := 154) (by omega) (by decide))) (fun _ => ?_)
    refine lv_aload_n hx hb dX12_wordIn_18 rfl (lv_at hl 3 rfl) ?_
    refine lv_iload hx hb dX12_wordIn_19 (lv_at hl 0 rfl) ?_
    have hPc := hP.sub (ws' := []) [] rfl
    have hDc := hD.sub (ws' := []) [] (by decide) rfl
    have hKc := hK.sub (tys' := []) [] rfl
    have hFc := va_free (wc := []) hD hS hA [] rfl
    refine va_calli (va_runV (As := [.int (nI k542)]) (rest := []) ⟨hx, hb, hml, hown, hts⟩ (m_J0_charAt_5068e_0 l dC dI H.size zz k542 (by omega)) (cwV 1 hts gX12_wordIn_J0_charAt_5068e rfl rfl rfl (by decide +kernel) ⟨Nat.le_of_ble_eq_true rfl, Nat.le_of_ble_eq_true rfl⟩) ⟨(fun a U g mk q => by obtain ⟨q0, q1, qP, qK, qD, qZ⟩ := q; exact ⟨q0, q1, qP, va_K.moved (u := U) (U := U.calling g mk a) (Vm.Alike.refl U.vm) qK, qD, SR.moved (u := U) (U := U.calling g mk a) (State.WarmedH.refl U) qZ⟩), vk_recv hZ.2.2.2.2.2.2.2.2.1 (i := 12) (by decide) hS, (fun U hU hW => ⟨rfl, by rw [hU], by rw [hU]; exact hPc, va_K.moved hW.alike hKc, hDc.weaken (fun _ _ _ _ => trivial), by rw [hU]; exact SR.moved hW (SR.narrow (SR.kept hZ hS.2.1) hFc)⟩)⟩ rfl rfl hl.1 rfl (lv_room (Nat.le_of_ble_eq_true rfl)) dX12_wordIn_21 ⟨(by show _ ≤ 0; omega), (by show _ ≤ 0; omega)⟩) hS (fun q _ h => hFc q h) hFc (fun ri u t H1 locs ht hvm hw hB hz1 hk1 hS => ?_)
    obtain ⟨hP1, hK1, hD1⟩ := hB
    rw [ht] at hP1
    have hK1 := va_K.moved hvm.symm hK1
    obtain ⟨hP, hD⟩ := va_join (wr := [(h269, .inl (cA272, 8000, .inl f273))]) (w1 := []) hP hD [] [0] rfl rfl (by decide) (by decide) hk1 hFc hP1 hD1
    generalize H1 = H at hP hS ⊢
    have hP : va_P (dC, dI) vwCl [(h269, .inl (cA272, 8000, .inl f273))] H := hP
    have hD : va_D A [(h269, .inl (cA272, 8000, .inl f273))] := hD
    refine W.widen (k := 0 + 0) (n := 0 + 0) (by omega) (by omega) ?_
    subst hw
    refine lv_bipush (v := 32) hx hb dX12_wordIn_24 (by decide) ?_
    refine lv_icmp_ne (tgt := 62) hx hb dX12_wordIn_26 (by decide) (fun cs552 => ?_) (fun cs552 => ?_)
    · refine lv_iinc (v := (nI (k542 + 1))) (lv' := [(6, .int (nI (k542 + 1))), (5, .int (nI k543)), (4, .int (nI k544)), (0, .ref (zz 124)), (1, .ref h269), (2, .int (nI k270)), (3, .int (nI k271))]) hx hb dX12_wordIn_62 hl (k := 0) rfl (nI_1 k542) (by decide) rfl (fun ls hl => ?_)
      refine lv_goto (tgt := 9) hx hb dX12_wordIn_65 (by decide) ?_
      refine W.widen (k := 0 + 0) (n := 0 + 0) (by omega) (by omega) ?_
      exact ih (k543, k544) _ _ _ ⟨(by omega), (by omega), (by rw [show 154 - k542 = (154 - (k542 + 1)) + 1 by omega] at hv; first | exact wlk_not hv (by assumption) (by assumption) | exact wlk_len hv (by assumption) (by assumption) | exact wlk_go hv (by assumption)), hP.sub [0] rfl, hD.sub [0] (by decide) rfl, hS, lv_sub hl [0, 1, 2, 3, 4, 5, 6] rfl⟩
    · refine lv_iload hx hb dX12_wordIn_29 (lv_at hl 0 rfl) ?_
      refine lv_iload hx hb dX12_wordIn_31 (lv_at hl 1 rfl) ?_
      refine lv_isub hx hb dX12_wordIn_33 ?_
      refine lv_topi (fun z553 ez553 => ?_)
      have ez553 : z553 = nI (k542 - k543) := ez553.trans (pk_sub (by omega))
      subst ez553
      refine lv_iload_n hx hb dX12_wordIn_34 rfl (lv_at hl 6 rfl) ?_
      refine lv_icmp_ne (tgt := 53) hx hb dX12_wordIn_35 (by decide) (fun cs554 => ?_) (fun cs554 => ?_)
      · refine lv_iinc (v := (nI (k544 + 1))) (lv' := [(4, .int (nI (k544 + 1))), (6, .int (nI k542)), (5, .int (nI k543)), (0, .ref (zz 124)), (1, .ref h269), (2, .int (nI k270)), (3, .int (nI k271))]) hx hb dX12_wordIn_53 hl (k := 2) rfl (nI_1 k544) (by decide) rfl (fun ls hl => ?_)
        refine lv_iload hx hb dX12_wordIn_56 (lv_at hl 1 rfl) ?_
        refine lv_iconst (v := 1) hx hb dX12_wordIn_58 (by decide) ?_
        refine lv_iadd hx hb dX12_wordIn_59 ?_
        refine lv_topi (fun z555 ez555 => ?_)
        have ez555 : z555 = nI (k542 + 1) := ez555.trans (nI_1 k542)
        subst ez555
        refine lv_istore (lv' := [(5, .int (nI (k542 + 1))), (4, .int (nI (k544 + 1))), (6, .int (nI k542)), (0, .ref (zz 124)), (1, .ref h269), (2, .int (nI k270)), (3, .int (nI k271))]) hx hb dX12_wordIn_60 hl (by decide) rfl (fun ls hl => ?_)
        refine lv_iinc (v := (nI (k542 + 1))) (lv' := [(6, .int (nI (k542 + 1))), (5, .int (nI (k542 + 1))), (4, .int (nI (k544 + 1))), (0, .ref (zz 124)), (1, .ref h269), (2, .int (nI k270)), (3, .int (nI k271))]) hx hb dX12_wordIn_62 hl (k := 2) rfl (nI_1 k542) (by decide) rfl (fun ls hl => ?_)
        refine lv_goto (tgt := 9) hx hb dX12_wordIn_65 (by decide) ?_
        refine W.widen (k := 0 + 0) (n := 0 + 0) (by omega) (by omega) ?_
        exact ih ((k542 + 1), (k544 + 1)) _ _ _ ⟨(by omega), (by omega), (by rw [show 154 - k542 = (154 - (k542 + 1)) + 1 by omega] at hv; first | exact wlk_not hv (by assumption) (by assumption) | exact wlk_len hv (by assumption) (by assumption) | exact wlk_go hv (by assumption)), hP.sub [0] rfl, hD.sub [0] (by decide) rfl, hS, lv_sub hl [0, 1, 2, 3, 4, 5, 6] rfl⟩
      · have ncs554 : k542 - k543 = k271 := ni_inj (by omega) (by omega) cs554
        refine lv_aload_n hx hb dX12_wordIn_38 rfl (lv_at hl 3 rfl) ?_
        refine lv_iload hx hb dX12_wordIn_39 (lv_at hl 1 rfl) ?_
        refine lv_aload_n hx hb dX12_wordIn_41 rfl (lv_at hl 4 rfl) ?_
        refine lv_iload_n hx hb dX12_wordIn_42 rfl (lv_at hl 5 rfl) ?_
        refine lv_iload_n hx hb dX12_wordIn_43 rfl (lv_at hl 6 rfl) ?_
        have hPc := hP.sub (ws' := [(h269, .inl (cA272, 8000, .inl f273))]) [0] rfl
        have hDc := hD.sub (ws' := [(h269, .inl (cA272, 8000, .inl f273))]) [0] (by decide) rfl
        have hKc := hK.sub (tys' := [(cA272, .byte)]) [0] rfl
        have hFc := va_free (wc := [(h269, .inl (cA272, 8000, .inl f273))]) hD hS hA [0] rfl
        refine va_calli (va_runS (As := [.ref (zz 124), .int (nI k543), .ref h269, .int (nI k270), .int (nI k271)]) (rest := []) ⟨hx, hb, hml, hown, hts⟩ (m_X12_sameBytes_0 l dC dI H.size zz k543 h269 k270 k271 cA272 f273 (by omega) (by omega) (by omega) (by omega) (by omega)) (va_cwS 5 hts gX12_wordIn_X12_sameBytes rfl rfl rfl (by decide +kernel) ⟨Nat.le_of_ble_eq_true rfl, Nat.le_of_ble_eq_true rfl⟩) ⟨(fun a U g mk q => by obtain ⟨q0, q1, qP, qK, qD, qZ⟩ := q; exact ⟨q0, q1, qP, va_K.moved (u := U) (U := U.calling g mk a) (Vm.Alike.refl U.vm) qK, qD, SR.moved (u := U) (U := U.calling g mk a) (State.WarmedH.refl U) qZ⟩), (fun U hU hW => ⟨rfl, by rw [hU], by rw [hU]; exact hPc, va_K.moved hW.alike hKc, hDc.weaken (fun _ _ _ _ => trivial), by rw [hU]; exact SR.moved hW (SR.narrow (SR.kept hZ hS.2.1) hFc)⟩)⟩ rfl rfl hl.1 rfl (lv_room (Nat.le_of_ble_eq_true rfl)) dX12_wordIn_44 ⟨(by show _ ≤ 0; omega), (by show _ ≤ 0; omega)⟩) hS (fun q _ h => hFc q h) hFc (fun ri u t H1 locs ht hvm hw hB hz1 hk1 hS => ?_)
        obtain ⟨hP1, hK1, hD1⟩ := hB
        rw [ht] at hP1
        have hK1 := va_K.moved hvm.symm hK1
        obtain ⟨hP, hD⟩ := va_join (wr := []) (w1 := [(h269, .inl (cA272, 8000, .inl f273))]) hP hD [0] [] rfl rfl (by decide) (by decide) hk1 hFc hP1 hD1
        generalize H1 = H at hP hS ⊢
        have hP : va_P (dC, dI) vwCl [(h269, .inl (cA272, 8000, .inl f273))] H := hP
        have hD : va_D A [(h269, .inl (cA272, 8000, .inl f273))] := hD
        refine W.widen (k := 0 + 0) (n := 0 + 0) (by omega) (by omega) ?_
        subst hw
        refine lv_if_eq (tgt := 53) hx hb dX12_wordIn_47 (by decide) (fun cs578 => ?_) (fun cs578 => ?_)
        · refine lv_iinc (v := (nI (k544 + 1))) (lv' := [(4, .int (nI (k544 + 1))), (6, .int (nI k542)), (5, .int (nI k543)), (0, .ref (zz 124)), (1, .ref h269), (2, .int (nI k270)), (3, .int (nI k271))]) hx hb dX12_wordIn_53 hl (k := 2) rfl (nI_1 k544) (by decide) rfl (fun ls hl => ?_)
          refine lv_iload hx hb dX12_wordIn_56 (lv_at hl 1 rfl) ?_
          refine lv_iconst (v := 1) hx hb dX12_wordIn_58 (by decide) ?_
          refine lv_iadd hx hb dX12_wordIn_59 ?_
          refine lv_topi (fun z579 ez579 => ?_)
          have ez579 : z579 = nI (k542 + 1) := ez579.trans (nI_1 k542)
          subst ez579
          refine lv_istore (lv' := [(5, .int (nI (k542 + 1))), (4, .int (nI (k544 + 1))), (6, .int (nI k542)), (0, .ref (zz 124)), (1, .ref h269), (2, .int (nI k270)), (3, .int (nI k271))]) hx hb dX12_wordIn_60 hl (by decide) rfl (fun ls hl => ?_)
          refine lv_iinc (v := (nI (k542 + 1))) (lv' := [(6, .int (nI (k542 + 1))), (5, .int (nI (k542 + 1))), (4, .int (nI (k544 + 1))), (0, .ref (zz 124)), (1, .ref h269), (2, .int (nI k270)), (3, .int (nI k271))]) hx hb dX12_wordIn_62 hl (k := 2) rfl (nI_1 k542) (by decide) rfl (fun ls hl => ?_)
          refine lv_goto (tgt := 9) hx hb dX12_wordIn_65 (by decide) ?_
          refine W.widen (k := 0 + 0) (n := 0 + 0) (by omega) (by omega) ?_
          exact ih ((k542 + 1), (k544 + 1)) _ _ _ ⟨(by omega), (by omega), (by rw [show 154 - k542 = (154 - (k542 + 1)) + 1 by omega] at hv; first | exact wlk_not hv (by assumption) (by assumption) | exact wlk_len hv (by assumption) (by assumption) | exact wlk_go hv (by assumption)), hP.sub [0] rfl, hD.sub [0] (by decide) rfl, hS, lv_sub hl [0, 1, 2, 3, 4, 5, 6] rfl⟩
        · refine lv_iload hx hb dX12_wordIn_50 (lv_at hl 2 rfl) ?_
          refine W.widen (k := 0) (n := 0) (by omega) (by omega) ?_
          refine lv_topi (fun z580 ez580 => ?_)
          have pz580 : (nI k544 : Int32) = wl sk_b12 f273 k270 k271 := (by rw [show 154 - k542 = (154 - (k542 + 1)) + 1 by omega] at hv; exact wlk_hit hv (by assumption) (by assumption) (by assumption))
          have ez580 : z580 = wl sk_b12 f273 k270 k271 := ez580.trans pz580
          subst ez580
          have hP9 := hP.sub (ws' := [(h269, .inl (cA272, 8000, .inl f273))]) [0] rfl
          have hD9 := hD.sub (ws' := [(h269, .inl (cA272, 8000, .inl f273))]) [0] (by decide) rfl
          have hK9 := hK.sub (tys' := [(cA272, .byte)]) [0] rfl
          exact W.iret (v := (wl sk_b12 f273 k270 k271)) hx hb hr (fun t ht hW => ⟨⟨(wl sk_b12 f273 k270 k271), (), rfl, rfl, by rw [ht]; exact hP9, va_K.moved hW.alike hK9, hD9⟩, hS.F ht⟩) hS.2.2 dX12_wordIn_52
  · intro a H locs ls hI
    obtain ⟨k543, k544⟩ := a
    obtain ⟨hn_k543, hn_k544, hv, hP, hD, hS, hl⟩ := hI
    have hl : lv_has ls 7 [(6, .int 154), (5, .int (nI k543)), (4, .int (nI k544)), (0, .ref (zz 124)), (1, .ref h269), (2, .int (nI k270)), (3, .int (nI k271))] := hl
    have hP : va_P (dC, dI) vwCl [(h269, .inl (cA272, 8000, .inl f273))] H := hP
    have hD : va_D A [(h269, .inl (cA272, 8000, .inl f273))] := hD
    refine W.widen (k := 0) (n := 0) (Nat.le_of_ble_eq_true rfl) (Nat.le_of_ble_eq_true rfl) ?_
    refine lv_iload hx hb dX12_wordIn_9 (lv_at hl 0 rfl) ?_
    refine lv_aload_n hx hb dX12_wordIn_11 rfl (lv_at hl 3 rfl) ?_
    have hPc := hP.sub (ws' := []) [] rfl
    have hDc := hD.sub (ws' := []) [] (by decide) rfl
    have hKc := hK.sub (tys' := []) [] rfl
    have hFc := va_free (wc := []) hD hS hA [] rfl
    refine va_calli (va_runV (As := []) (rest := [.int 154]) ⟨hx, hb, hml, hown, hts⟩ (m_J0_length_8abf5_0 l dC dI H.size zz ) (cwV 0 hts gX12_wordIn_J0_length_8abf5 rfl rfl rfl (by decide +kernel) ⟨Nat.le_of_ble_eq_true rfl, Nat.le_of_ble_eq_true rfl⟩) ⟨(fun a U g mk q => by obtain ⟨q0, q1, qP, qK, qD, qZ⟩ := q; exact ⟨q0, q1, qP, va_K.moved (u := U) (U := U.calling g mk a) (Vm.Alike.refl U.vm) qK, qD, SR.moved (u := U) (U := U.calling g mk a) (State.WarmedH.refl U) qZ⟩), vk_recv hZ.2.2.2.2.2.2.2.2.1 (i := 12) (by decide) hS, (fun U hU hW => ⟨rfl, by rw [hU], by rw [hU]; exact hPc, va_K.moved hW.alike hKc, hDc.weaken (fun _ _ _ _ => trivial), by rw [hU]; exact SR.moved hW (SR.narrow (SR.kept hZ hS.2.1) hFc)⟩)⟩ rfl rfl hl.1 rfl (lv_room (Nat.le_of_ble_eq_true rfl)) dX12_wordIn_12 ⟨(Nat.le_of_ble_eq_true rfl), (Nat.le_of_ble_eq_true rfl)⟩) hS (fun q _ h => hFc q h) hFc (fun ri u t H1 locs ht hvm hw hB hz1 hk1 hS => ?_)
    obtain ⟨hP1, hK1, hD1⟩ := hB
    rw [ht] at hP1
    have hK1 := va_K.moved hvm.symm hK1
    obtain ⟨hP, hD⟩ := va_join (wr := [(h269, .inl (cA272, 8000, .inl f273))]) (w1 := []) hP hD [] [0] rfl rfl (by decide) (by decide) hk1 hFc hP1 hD1
    generalize H1 = H at hP hS ⊢
    have hP : va_P (dC, dI) vwCl [(h269, .inl (cA272, 8000, .inl f273))] H := hP
    have hD : va_D A [(h269, .inl (cA272, 8000, .inl f273))] := hD
    refine W.widen (k := 0) (n := 0) (Nat.le_of_ble_eq_true rfl) (Nat.le_of_ble_eq_true rfl) ?_
    subst hw
    refine lv_icmp_ge (tgt := 68) hx hb dX12_wordIn_15 (by decide) (fun _ => ?_) (fun cx => absurd (show (154 : Int32) ≤ 154 by decide) cx)
    refine lv_iconst (v := (-1)) hx hb dX12_wordIn_68 (by decide) ?_
    refine lv_topi (fun z582 ez582 => ?_)
    have pz582 : ((-1) : Int32) = wl sk_b12 f273 k270 k271 := (by exact hv)
    have ez582 : z582 = wl sk_b12 f273 k270 k271 := ez582.trans pz582
    subst ez582
    have hP9 := hP.sub (ws' := [(h269, .inl (cA272, 8000, .inl f273))]) [0] rfl
    have hD9 := hD.sub (ws' := [(h269, .inl (cA272, 8000, .inl f273))]) [0] (by decide) rfl
    have hK9 := hK.sub (tys' := [(cA272, .byte)]) [0] rfl
    exact W.iret (v := (wl sk_b12 f273 k270 k271)) hx hb hr (fun t ht hW => ⟨⟨(wl sk_b12 f273 k270 k271), (), rfl, rfl, by rw [ht]; exact hP9, va_K.moved hW.alike hK9, hD9⟩, hS.F ht⟩) hS.2.2 dX12_wordIn_69
