/-- the byte of a at this shift, as a byte array keeps it -/
def fd_b (a s : Int32) : Int32 := vp_nar .byte ((a >>> (s &&& 31)).toInt8.toInt32)
/-- four bytes, the highest first, from place k on -/
def fd_one (f : Nat → Int32) (k : Nat) (a : Int32) : Nat → Int32 := upd (upd (upd (upd f k (fd_b a 24)) (k + 1) (fd_b a 16)) (k + 1 + 1) (fd_b a 8)) (k + 1 + 1 + 1) (fd_b a 0)
set_option maxHeartbeats 4000000 in
set_option maxRecDepth 100000 in
theorem k_X12_feedOne (l : Launch) (dC : Nat → ClassId) (dI : Nat → Nat → Nat) (h0 qt sz k : Nat) (hk : k + 4 ≤ 8000) (cT : ClassId) (f : Nat → Int32) (v2 v3 v4 v5 v6 v7 v8 v9 v10 : Value) (a : Int32) : Met l yX12_feedOne wsX12_feedOne ({ frames := 0, cells := 0, slots := 0, locals := 0 }) (va_Pc [.ref h0, .int a] (fun U => U.heap.size = sz ∧ va_P (dC, dI) vwCl [(h0, .inr (14, [.ref qt, .int (nI k), v2, v3, v4, v5, v6, v7, v8, v9, v10])), (qt, .inl (cT, 8000, .inl f))] U.heap ∧ va_K (dC, dI) vwCl [(cT, .byte)] U ∧ va_D (fun _ => True) [(h0, .inr (14, [.ref qt, .int (nI k), v2, v3, v4, v5, v6, v7, v8, v9, v10])), (qt, .inl (cT, 8000, .inl f))])) (va_Qv (fun (u : Nat → Int32) => u = fd_one f k a) (fun u t => va_P (dC, dI) vwCl [(h0, .inr (14, [.ref qt, .int (nI (k + 1 + 1 + 1 + 1)), v2, v3, v4, v5, v6, v7, v8, v9, v10])), (qt, .inl (cT, 8000, .inl u))] t.heap ∧ va_K (dC, dI) vwCl [(cT, .byte)] t ∧ va_D (va_A [(h0, .inr (14, [.ref qt, .int (nI k), v2, v3, v4, v5, v6, v7, v8, v9, v10])), (qt, .inl (cT, 8000, .inl f))] sz) [(h0, .inr (14, [.ref qt, .int (nI (k + 1 + 1 + 1 + 1)), v2, v3, v4, v5, v6, v7, v8, v9, v10])), (qt, .inl (cT, 8000, .inl u))]) (va_A [(h0, .inr (14, [.ref qt, .int (nI k), v2, v3, v4, v5, v6, v7, v8, v9, v10])), (qt, .inl (cT, 8000, .inl f))] sz)) 0 0 (va_A [(h0, .inr (14, [.ref qt, .int (nI k), v2, v3, v4, v5, v6, v7, v8, v9, v10])), (qt, .inl (cT, 8000, .inl f))] sz) := by
  refine Met.ofW (cc := cX12_feedOne) (maxL := 3) (ret := none) (by decide) rfl ?_
  intro p e s m args below meth c s₁ B hml hv
  obtain ⟨rfl, hsz, hP, hK, hD0⟩ := hv
  have hx := B.exec
  have hb := B.bytes
  have hr := B.returns
  have hts := atoms_spec (ws := wsX12_feedOne) B.pre
  have hown : s.vm.findClass RX12 = some m.cls := findClass_of_methodNamed B.named
  have hlocks := B.notSynchronized
  have hinX12 : ∀ w ∈ wsX120, w ∈ wsX12_feedOne := fun w h => List.mem_cons_of_mem _ (List.mem_append_right _ h)
  subst hsz
  have hD := hD0.self (sz := s.heap.size)
  generalize hAe : va_A [(h0, .inr (14, [.ref qt, .int (nI k), v2, v3, v4, v5, v6, v7, v8, v9, v10])), (qt, .inl (cT, 8000, .inl f))] s.heap.size = A at hD ⊢
  have hA : ∀ q : Nat, s.heap.size ≤ q → A q := fun q h => by rw [← hAe]; exact Or.inr h
  have hS : va_S A s.heap s.heap [] := va_S.rf
  have hl := lv_entry ([.ref h0, .int a]) (n := 3) (Nat.le_of_ble_eq_true rfl)
  rw [lg_entry_eq]
  generalize (lg_sl ([.ref h0, .int a]) ++ List.replicate (3 - (lg_sl ([.ref h0, .int a])).length) Slot.unset).toArray = ls at hl ⊢
  have hl : lv_has ls 3 [(0, .ref h0), (1, .int a)] := hl
  refine lv_bipush (v := 24) hx hb dX12_feedOne_0 (by decide) ?_
  refine lv_istore_n (lv' := [(2, .int 24), (0, .ref h0), (1, .int a)]) hx hb dX12_feedOne_2 rfl hl (by decide) rfl (fun ls hl => ?_)
  refine lv_iload_n hx hb dX12_feedOne_3 rfl (lv_at hl 0 rfl) ?_
  refine lv_if_lt (tgt := 46) hx hb dX12_feedOne_4 (by decide) (fun c_4_0 => absurd c_4_0 (by decide)) (fun c_4_0 => ?_)
  refine lv_aload_n hx hb dX12_feedOne_7 rfl (lv_at hl 1 rfl) ?_
  refine va_get (D := (dC, dI)) (ci := 14) (v := .int (nI k)) (C := RX12) (T := TX12) (N := 11) hx hb hts hinX12 hown hK hP 0 rfl rfl 1 (by decide) (hts (.fieldLink RX12 49 "GoalHouse" "size" "I") (by decide +kernel)) (fun _ h9 => h9) rfl dX12_feedOne_8 ?_
  refine lv_sipush (v := 8000) hx hb dX12_feedOne_11 (by decide) ?_
  refine lv_icmp_ge (tgt := 40) hx hb dX12_feedOne_14 (by decide) (fun c_14_0 => absurd c_14_0 (fun h => nI_ge (a := k) (b := 8000) (by omega) (by decide) h)) (fun c_14_0 => ?_)
  refine lv_aload_n hx hb dX12_feedOne_17 rfl (lv_at hl 1 rfl) ?_
  refine va_get (D := (dC, dI)) (ci := 14) (v := .ref qt) (C := RX12) (T := TX12) (N := 11) hx hb hts hinX12 hown hK hP 0 rfl rfl 0 (by decide) (hts (.fieldLink RX12 9 "GoalHouse" "tape" "[B") (by decide +kernel)) (fun _ h9 => h9) rfl dX12_feedOne_18 ?_
  refine lv_aload_n hx hb dX12_feedOne_21 rfl (lv_at hl 1 rfl) ?_
  refine va_get (D := (dC, dI)) (ci := 14) (v := .int (nI k)) (C := RX12) (T := TX12) (N := 11) hx hb hts hinX12 hown hK hP 0 rfl rfl 1 (by decide) (hts (.fieldLink RX12 49 "GoalHouse" "size" "I") (by decide +kernel)) (fun _ h9 => h9) rfl dX12_feedOne_22 ?_
  refine lv_iload_n hx hb dX12_feedOne_25 rfl (lv_at hl 2 rfl) ?_
  refine lv_iload_n hx hb dX12_feedOne_26 rfl (lv_at hl 0 rfl) ?_
  refine lv_ishr hx hb dX12_feedOne_27 ?_
  refine lv_topi (fun z_1 ez_1 => ?_)
  obtain ⟨z_2, ez_2⟩ : ∃ y, y = (z_1 : Int32).toInt8.toInt32 := ⟨_, rfl⟩
  refine lv_i2b (v := z_2) hx hb dX12_feedOne_28 ez_2.symm ?_
  refine va_bast (x := z_2) hx hb hK hP hD hS 1 0 rfl rfl (vp_in_nI (by omega) (by decide)) dX12_feedOne_29 (fun H locs hP hD hS => ?_)
  obtain ⟨g_3, eg_3⟩ : ∃ z : Nat → Int32, z = upd f (nI k : Int32).toNatClampNeg (vp_nar .byte z_2) := ⟨_, rfl⟩
  have hP : va_P (dC, dI) vwCl [(h0, .inr (14, [.ref qt, .int (nI k), v2, v3, v4, v5, v6, v7, v8, v9, v10])), (qt, .inl (cT, 8000, .inl g_3))] H := by rw [eg_3]; exact hP
  have hD : va_D A [(h0, .inr (14, [.ref qt, .int (nI k), v2, v3, v4, v5, v6, v7, v8, v9, v10])), (qt, .inl (cT, 8000, .inl g_3))] := by rw [eg_3]; exact hD
  have eg_3 : g_3 = upd f k (vp_nar .byte z_2) := by rw [eg_3, nI_clamp (by omega)]
  refine lv_aload_n hx hb dX12_feedOne_30 rfl (lv_at hl 1 rfl) ?_
  refine lv_dup hx hb dX12_feedOne_31 rfl ?_
  refine va_get (D := (dC, dI)) (ci := 14) (v := .int (nI k)) (C := RX12) (T := TX12) (N := 11) hx hb hts hinX12 hown hK hP 0 rfl rfl 1 (by decide) (hts (.fieldLink RX12 49 "GoalHouse" "size" "I") (by decide +kernel)) (fun _ h9 => h9) rfl dX12_feedOne_32 ?_
  refine lv_iconst (v := 1) hx hb dX12_feedOne_35 (by decide) ?_
  refine lv_iadd hx hb dX12_feedOne_36 ?_
  refine lv_topi (fun z_4 ez_4 => ?_)
  have ez_4 : z_4 = nI (k + 1) := ez_4.trans (nI_1 k)
  subst ez_4
  refine va_put (D := (dC, dI)) (ci := 14) (v := .int (nI (k + 1))) (ty := .int) (C := RX12) (T := TX12) (N := 11) hx hb hts hinX12 tyX12 tyX12_ok nmX12 hown hK hP hD hS 0 rfl rfl 1 (by decide) (hts (.fieldLink RX12 49 "GoalHouse" "size" "I") (by decide +kernel)) (fun _ h9 => h9) rfl (by decide +kernel) rfl rfl (Nat.le_of_ble_eq_true rfl) dX12_feedOne_37 (fun H locs hP hD hS => ?_)
  have hP : va_P (dC, dI) vwCl [(h0, .inr (14, [.ref qt, .int (nI (k + 1)), v2, v3, v4, v5, v6, v7, v8, v9, v10])), (qt, .inl (cT, 8000, .inl g_3))] H := hP
  have hD : va_D A [(h0, .inr (14, [.ref qt, .int (nI (k + 1)), v2, v3, v4, v5, v6, v7, v8, v9, v10])), (qt, .inl (cT, 8000, .inl g_3))] := hD
  refine lv_iinc (v := 16) (lv' := [(2, .int 16), (0, .ref h0), (1, .int a)]) hx hb dX12_feedOne_40 hl (k := 0) rfl (by decide) (by decide) rfl (fun ls hl => ?_)
  refine lv_goto (tgt := 3) hx hb dX12_feedOne_43 (by decide) ?_
  refine lv_iload_n hx hb dX12_feedOne_3 rfl (lv_at hl 0 rfl) ?_
  refine lv_if_lt (tgt := 46) hx hb dX12_feedOne_4 (by decide) (fun c_4_5 => absurd c_4_5 (by decide)) (fun c_4_5 => ?_)
  refine lv_aload_n hx hb dX12_feedOne_7 rfl (lv_at hl 1 rfl) ?_
  refine va_get (D := (dC, dI)) (ci := 14) (v := .int (nI (k + 1))) (C := RX12) (T := TX12) (N := 11) hx hb hts hinX12 hown hK hP 0 rfl rfl 1 (by decide) (hts (.fieldLink RX12 49 "GoalHouse" "size" "I") (by decide +kernel)) (fun _ h9 => h9) rfl dX12_feedOne_8 ?_
  refine lv_sipush (v := 8000) hx hb dX12_feedOne_11 (by decide) ?_
  refine lv_icmp_ge (tgt := 40) hx hb dX12_feedOne_14 (by decide) (fun c_14_5 => absurd c_14_5 (fun h => nI_ge (a := (k + 1)) (b := 8000) (by omega) (by decide) h)) (fun c_14_5 => ?_)
  refine lv_aload_n hx hb dX12_feedOne_17 rfl (lv_at hl 1 rfl) ?_
  refine va_get (D := (dC, dI)) (ci := 14) (v := .ref qt) (C := RX12) (T := TX12) (N := 11) hx hb hts hinX12 hown hK hP 0 rfl rfl 0 (by decide) (hts (.fieldLink RX12 9 "GoalHouse" "tape" "[B") (by decide +kernel)) (fun _ h9 => h9) rfl dX12_feedOne_18 ?_
  refine lv_aload_n hx hb dX12_feedOne_21 rfl (lv_at hl 1 rfl) ?_
  refine va_get (D := (dC, dI)) (ci := 14) (v := .int (nI (k + 1))) (C := RX12) (T := TX12) (N := 11) hx hb hts hinX12 hown hK hP 0 rfl rfl 1 (by decide) (hts (.fieldLink RX12 49 "GoalHouse" "size" "I") (by decide +kernel)) (fun _ h9 => h9) rfl dX12_feedOne_22 ?_
  refine lv_iload_n hx hb dX12_feedOne_25 rfl (lv_at hl 2 rfl) ?_
  refine lv_iload_n hx hb dX12_feedOne_26 rfl (lv_at hl 0 rfl) ?_
  refine lv_ishr hx hb dX12_feedOne_27 ?_
  refine lv_topi (fun z_6 ez_6 => ?_)
  obtain ⟨z_7, ez_7⟩ : ∃ y, y = (z_6 : Int32).toInt8.toInt32 := ⟨_, rfl⟩
  refine lv_i2b (v := z_7) hx hb dX12_feedOne_28 ez_7.symm ?_
  refine va_bast (x := z_7) hx hb hK hP hD hS 1 0 rfl rfl (vp_in_nI (by omega) (by decide)) dX12_feedOne_29 (fun H locs hP hD hS => ?_)
  obtain ⟨g_8, eg_8⟩ : ∃ z : Nat → Int32, z = upd g_3 (nI (k + 1) : Int32).toNatClampNeg (vp_nar .byte z_7) := ⟨_, rfl⟩
  have hP : va_P (dC, dI) vwCl [(h0, .inr (14, [.ref qt, .int (nI (k + 1)), v2, v3, v4, v5, v6, v7, v8, v9, v10])), (qt, .inl (cT, 8000, .inl g_8))] H := by rw [eg_8]; exact hP
  have hD : va_D A [(h0, .inr (14, [.ref qt, .int (nI (k + 1)), v2, v3, v4, v5, v6, v7, v8, v9, v10])), (qt, .inl (cT, 8000, .inl g_8))] := by rw [eg_8]; exact hD
  have eg_8 : g_8 = upd g_3 (k + 1) (vp_nar .byte z_7) := by rw [eg_8, nI_clamp (by omega)]
  refine lv_aload_n hx hb dX12_feedOne_30 rfl (lv_at hl 1 rfl) ?_
  refine lv_dup hx hb dX12_feedOne_31 rfl ?_
  refine va_get (D := (dC, dI)) (ci := 14) (v := .int (nI (k + 1))) (C := RX12) (T := TX12) (N := 11) hx hb hts hinX12 hown hK hP 0 rfl rfl 1 (by decide) (hts (.fieldLink RX12 49 "GoalHouse" "size" "I") (by decide +kernel)) (fun _ h9 => h9) rfl dX12_feedOne_32 ?_
  refine lv_iconst (v := 1) hx hb dX12_feedOne_35 (by decide) ?_
  refine lv_iadd hx hb dX12_feedOne_36 ?_
  refine lv_topi (fun z_9 ez_9 => ?_)
  have ez_9 : z_9 = nI (k + 1 + 1) := ez_9.trans (nI_1 (k + 1))
  subst ez_9
  refine va_put (D := (dC, dI)) (ci := 14) (v := .int (nI (k + 1 + 1))) (ty := .int) (C := RX12) (T := TX12) (N := 11) hx hb hts hinX12 tyX12 tyX12_ok nmX12 hown hK hP hD hS 0 rfl rfl 1 (by decide) (hts (.fieldLink RX12 49 "GoalHouse" "size" "I") (by decide +kernel)) (fun _ h9 => h9) rfl (by decide +kernel) rfl rfl (Nat.le_of_ble_eq_true rfl) dX12_feedOne_37 (fun H locs hP hD hS => ?_)
  have hP : va_P (dC, dI) vwCl [(h0, .inr (14, [.ref qt, .int (nI (k + 1 + 1)), v2, v3, v4, v5, v6, v7, v8, v9, v10])), (qt, .inl (cT, 8000, .inl g_8))] H := hP
  have hD : va_D A [(h0, .inr (14, [.ref qt, .int (nI (k + 1 + 1)), v2, v3, v4, v5, v6, v7, v8, v9, v10])), (qt, .inl (cT, 8000, .inl g_8))] := hD
  refine lv_iinc (v := 8) (lv' := [(2, .int 8), (0, .ref h0), (1, .int a)]) hx hb dX12_feedOne_40 hl (k := 0) rfl (by decide) (by decide) rfl (fun ls hl => ?_)
  refine lv_goto (tgt := 3) hx hb dX12_feedOne_43 (by decide) ?_
  refine lv_iload_n hx hb dX12_feedOne_3 rfl (lv_at hl 0 rfl) ?_
  refine lv_if_lt (tgt := 46) hx hb dX12_feedOne_4 (by decide) (fun c_4_10 => absurd c_4_10 (by decide)) (fun c_4_10 => ?_)
  refine lv_aload_n hx hb dX12_feedOne_7 rfl (lv_at hl 1 rfl) ?_
  refine va_get (D := (dC, dI)) (ci := 14) (v := .int (nI (k + 1 + 1))) (C := RX12) (T := TX12) (N := 11) hx hb hts hinX12 hown hK hP 0 rfl rfl 1 (by decide) (hts (.fieldLink RX12 49 "GoalHouse" "size" "I") (by decide +kernel)) (fun _ h9 => h9) rfl dX12_feedOne_8 ?_
  refine lv_sipush (v := 8000) hx hb dX12_feedOne_11 (by decide) ?_
  refine lv_icmp_ge (tgt := 40) hx hb dX12_feedOne_14 (by decide) (fun c_14_10 => absurd c_14_10 (fun h => nI_ge (a := (k + 1 + 1)) (b := 8000) (by omega) (by decide) h)) (fun c_14_10 => ?_)
  refine lv_aload_n hx hb dX12_feedOne_17 rfl (lv_at hl 1 rfl) ?_
  refine va_get (D := (dC, dI)) (ci := 14) (v := .ref qt) (C := RX12) (T := TX12) (N := 11) hx hb hts hinX12 hown hK hP 0 rfl rfl 0 (by decide) (hts (.fieldLink RX12 9 "GoalHouse" "tape" "[B") (by decide +kernel)) (fun _ h9 => h9) rfl dX12_feedOne_18 ?_
  refine lv_aload_n hx hb dX12_feedOne_21 rfl (lv_at hl 1 rfl) ?_
  refine va_get (D := (dC, dI)) (ci := 14) (v := .int (nI (k + 1 + 1))) (C := RX12) (T := TX12) (N := 11) hx hb hts hinX12 hown hK hP 0 rfl rfl 1 (by decide) (hts (.fieldLink RX12 49 "GoalHouse" "size" "I") (by decide +kernel)) (fun _ h9 => h9) rfl dX12_feedOne_22 ?_
  refine lv_iload_n hx hb dX12_feedOne_25 rfl (lv_at hl 2 rfl) ?_
  refine lv_iload_n hx hb dX12_feedOne_26 rfl (lv_at hl 0 rfl) ?_
  refine lv_ishr hx hb dX12_feedOne_27 ?_
  refine lv_topi (fun z_11 ez_11 => ?_)
  obtain ⟨z_12, ez_12⟩ : ∃ y, y = (z_11 : Int32).toInt8.toInt32 := ⟨_, rfl⟩
  refine lv_i2b (v := z_12) hx hb dX12_feedOne_28 ez_12.symm ?_
  refine va_bast (x := z_12) hx hb hK hP hD hS 1 0 rfl rfl (vp_in_nI (by omega) (by decide)) dX12_feedOne_29 (fun H locs hP hD hS => ?_)
  obtain ⟨g_13, eg_13⟩ : ∃ z : Nat → Int32, z = upd g_8 (nI (k + 1 + 1) : Int32).toNatClampNeg (vp_nar .byte z_12) := ⟨_, rfl⟩
  have hP : va_P (dC, dI) vwCl [(h0, .inr (14, [.ref qt, .int (nI (k + 1 + 1)), v2, v3, v4, v5, v6, v7, v8, v9, v10])), (qt, .inl (cT, 8000, .inl g_13))] H := by rw [eg_13]; exact hP
  have hD : va_D A [(h0, .inr (14, [.ref qt, .int (nI (k + 1 + 1)), v2, v3, v4, v5, v6, v7, v8, v9, v10])), (qt, .inl (cT, 8000, .inl g_13))] := by rw [eg_13]; exact hD
  have eg_13 : g_13 = upd g_8 (k + 1 + 1) (vp_nar .byte z_12) := by rw [eg_13, nI_clamp (by omega)]
  refine lv_aload_n hx hb dX12_feedOne_30 rfl (lv_at hl 1 rfl) ?_
  refine lv_dup hx hb dX12_feedOne_31 rfl ?_
  refine va_get (D := (dC, dI)) (ci := 14) (v := .int (nI (k + 1 + 1))) (C := RX12) (T := TX12) (N := 11) hx hb hts hinX12 hown hK hP 0 rfl rfl 1 (by decide) (hts (.fieldLink RX12 49 "GoalHouse" "size" "I") (by decide +kernel)) (fun _ h9 => h9) rfl dX12_feedOne_32 ?_
  refine lv_iconst (v := 1) hx hb dX12_feedOne_35 (by decide) ?_
  refine lv_iadd hx hb dX12_feedOne_36 ?_
  refine lv_topi (fun z_14 ez_14 => ?_)
  have ez_14 : z_14 = nI (k + 1 + 1 + 1) := ez_14.trans (nI_1 (k + 1 + 1))
  subst ez_14
  refine va_put (D := (dC, dI)) (ci := 14) (v := .int (nI (k + 1 + 1 + 1))) (ty := .int) (C := RX12) (T := TX12) (N := 11) hx hb hts hinX12 tyX12 tyX12_ok nmX12 hown hK hP hD hS 0 rfl rfl 1 (by decide) (hts (.fieldLink RX12 49 "GoalHouse" "size" "I") (by decide +kernel)) (fun _ h9 => h9) rfl (by decide +kernel) rfl rfl (Nat.le_of_ble_eq_true rfl) dX12_feedOne_37 (fun H locs hP hD hS => ?_)
  have hP : va_P (dC, dI) vwCl [(h0, .inr (14, [.ref qt, .int (nI (k + 1 + 1 + 1)), v2, v3, v4, v5, v6, v7, v8, v9, v10])), (qt, .inl (cT, 8000, .inl g_13))] H := hP
  have hD : va_D A [(h0, .inr (14, [.ref qt, .int (nI (k + 1 + 1 + 1)), v2, v3, v4, v5, v6, v7, v8, v9, v10])), (qt, .inl (cT, 8000, .inl g_13))] := hD
  refine lv_iinc (v := 0) (lv' := [(2, .int 0), (0, .ref h0), (1, .int a)]) hx hb dX12_feedOne_40 hl (k := 0) rfl (by decide) (by decide) rfl (fun ls hl => ?_)
  refine lv_goto (tgt := 3) hx hb dX12_feedOne_43 (by decide) ?_
  refine lv_iload_n hx hb dX12_feedOne_3 rfl (lv_at hl 0 rfl) ?_
  refine lv_if_lt (tgt := 46) hx hb dX12_feedOne_4 (by decide) (fun c_4_15 => absurd c_4_15 (by decide)) (fun c_4_15 => ?_)
  refine lv_aload_n hx hb dX12_feedOne_7 rfl (lv_at hl 1 rfl) ?_
  refine va_get (D := (dC, dI)) (ci := 14) (v := .int (nI (k + 1 + 1 + 1))) (C := RX12) (T := TX12) (N := 11) hx hb hts hinX12 hown hK hP 0 rfl rfl 1 (by decide) (hts (.fieldLink RX12 49 "GoalHouse" "size" "I") (by decide +kernel)) (fun _ h9 => h9) rfl dX12_feedOne_8 ?_
  refine lv_sipush (v := 8000) hx hb dX12_feedOne_11 (by decide) ?_
  refine lv_icmp_ge (tgt := 40) hx hb dX12_feedOne_14 (by decide) (fun c_14_15 => absurd c_14_15 (fun h => nI_ge (a := (k + 1 + 1 + 1)) (b := 8000) (by omega) (by decide) h)) (fun c_14_15 => ?_)
  refine lv_aload_n hx hb dX12_feedOne_17 rfl (lv_at hl 1 rfl) ?_
  refine va_get (D := (dC, dI)) (ci := 14) (v := .ref qt) (C := RX12) (T := TX12) (N := 11) hx hb hts hinX12 hown hK hP 0 rfl rfl 0 (by decide) (hts (.fieldLink RX12 9 "GoalHouse" "tape" "[B") (by decide +kernel)) (fun _ h9 => h9) rfl dX12_feedOne_18 ?_
  refine lv_aload_n hx hb dX12_feedOne_21 rfl (lv_at hl 1 rfl) ?_
  refine va_get (D := (dC, dI)) (ci := 14) (v := .int (nI (k + 1 + 1 + 1))) (C := RX12) (T := TX12) (N := 11) hx hb hts hinX12 hown hK hP 0 rfl rfl 1 (by decide) (hts (.fieldLink RX12 49 "GoalHouse" "size" "I") (by decide +kernel)) (fun _ h9 => h9) rfl dX12_feedOne_22 ?_
  refine lv_iload_n hx hb dX12_feedOne_25 rfl (lv_at hl 2 rfl) ?_
  refine lv_iload_n hx hb dX12_feedOne_26 rfl (lv_at hl 0 rfl) ?_
  refine lv_ishr hx hb dX12_feedOne_27 ?_
  refine lv_topi (fun z_16 ez_16 => ?_)
  obtain ⟨z_17, ez_17⟩ : ∃ y, y = (z_16 : Int32).toInt8.toInt32 := ⟨_, rfl⟩
  refine lv_i2b (v := z_17) hx hb dX12_feedOne_28 ez_17.symm ?_
  refine va_bast (x := z_17) hx hb hK hP hD hS 1 0 rfl rfl (vp_in_nI (by omega) (by decide)) dX12_feedOne_29 (fun H locs hP hD hS => ?_)
  obtain ⟨g_18, eg_18⟩ : ∃ z : Nat → Int32, z = upd g_13 (nI (k + 1 + 1 + 1) : Int32).toNatClampNeg (vp_nar .byte z_17) := ⟨_, rfl⟩
  have hP : va_P (dC, dI) vwCl [(h0, .inr (14, [.ref qt, .int (nI (k + 1 + 1 + 1)), v2, v3, v4, v5, v6, v7, v8, v9, v10])), (qt, .inl (cT, 8000, .inl g_18))] H := by rw [eg_18]; exact hP
  have hD : va_D A [(h0, .inr (14, [.ref qt, .int (nI (k + 1 + 1 + 1)), v2, v3, v4, v5, v6, v7, v8, v9, v10])), (qt, .inl (cT, 8000, .inl g_18))] := by rw [eg_18]; exact hD
  have eg_18 : g_18 = upd g_13 (k + 1 + 1 + 1) (vp_nar .byte z_17) := by rw [eg_18, nI_clamp (by omega)]
  refine lv_aload_n hx hb dX12_feedOne_30 rfl (lv_at hl 1 rfl) ?_
  refine lv_dup hx hb dX12_feedOne_31 rfl ?_
  refine va_get (D := (dC, dI)) (ci := 14) (v := .int (nI (k + 1 + 1 + 1))) (C := RX12) (T := TX12) (N := 11) hx hb hts hinX12 hown hK hP 0 rfl rfl 1 (by decide) (hts (.fieldLink RX12 49 "GoalHouse" "size" "I") (by decide +kernel)) (fun _ h9 => h9) rfl dX12_feedOne_32 ?_
  refine lv_iconst (v := 1) hx hb dX12_feedOne_35 (by decide) ?_
  refine lv_iadd hx hb dX12_feedOne_36 ?_
  refine lv_topi (fun z_19 ez_19 => ?_)
  have ez_19 : z_19 = nI (k + 1 + 1 + 1 + 1) := ez_19.trans (nI_1 (k + 1 + 1 + 1))
  subst ez_19
  refine va_put (D := (dC, dI)) (ci := 14) (v := .int (nI (k + 1 + 1 + 1 + 1))) (ty := .int) (C := RX12) (T := TX12) (N := 11) hx hb hts hinX12 tyX12 tyX12_ok nmX12 hown hK hP hD hS 0 rfl rfl 1 (by decide) (hts (.fieldLink RX12 49 "GoalHouse" "size" "I") (by decide +kernel)) (fun _ h9 => h9) rfl (by decide +kernel) rfl rfl (Nat.le_of_ble_eq_true rfl) dX12_feedOne_37 (fun H locs hP hD hS => ?_)
  have hP : va_P (dC, dI) vwCl [(h0, .inr (14, [.ref qt, .int (nI (k + 1 + 1 + 1 + 1)), v2, v3, v4, v5, v6, v7, v8, v9, v10])), (qt, .inl (cT, 8000, .inl g_18))] H := hP
  have hD : va_D A [(h0, .inr (14, [.ref qt, .int (nI (k + 1 + 1 + 1 + 1)), v2, v3, v4, v5, v6, v7, v8, v9, v10])), (qt, .inl (cT, 8000, .inl g_18))] := hD
  refine lv_iinc (v := (-8)) (lv' := [(2, .int (-8)), (0, .ref h0), (1, .int a)]) hx hb dX12_feedOne_40 hl (k := 0) rfl (by decide) (by decide) rfl (fun ls hl => ?_)
  refine lv_goto (tgt := 3) hx hb dX12_feedOne_43 (by decide) ?_
  refine lv_iload_n hx hb dX12_feedOne_3 rfl (lv_at hl 0 rfl) ?_
  refine lv_if_lt (tgt := 46) hx hb dX12_feedOne_4 (by decide) (fun c_4_20 => ?_) (fun c_4_20 => absurd (by decide) c_4_20)
  have hP9 := hP.sub (ws' := [(h0, .inr (14, [.ref qt, .int (nI (k + 1 + 1 + 1 + 1)), v2, v3, v4, v5, v6, v7, v8, v9, v10])), (qt, .inl (cT, 8000, .inl g_18))]) [0, 1] rfl
  have hD9 := hD.sub (ws' := [(h0, .inr (14, [.ref qt, .int (nI (k + 1 + 1 + 1 + 1)), v2, v3, v4, v5, v6, v7, v8, v9, v10])), (qt, .inl (cT, 8000, .inl g_18))]) [0, 1] (by decide) rfl
  have hK9 := hK.sub (tys' := [(cT, .byte)]) [0] rfl
  have hf : g_18 = fd_one f k a := by rw [eg_18, eg_13, eg_8, eg_3, ez_17, ez_16, ez_12, ez_11, ez_7, ez_6, ez_2, ez_1]; rfl
  exact W.vret hx hb hr (fun t ht hW => ⟨⟨g_18, rfl, hf, by rw [ht]; exact hP9, va_K.moved hW.alike hK9, hD9⟩, hS.F ht⟩) hS.2.2 dX12_feedOne_46

