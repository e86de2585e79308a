/-! the law's own readers of its argument, by hand -/
theorem dL_cell_0 : decode cL_cell 0 = .ok (.iload_n 1, 1) := by decide +kernel
theorem dL_cell_1 : decode cL_cell 1 = .ok (.aload_n 0, 1) := by decide +kernel
theorem dL_cell_2 : decode cL_cell 2 = .ok (.arraylength, 1) := by decide +kernel
theorem dL_cell_3 : decode cL_cell 3 = .ok (.if_icmp .ge 9, 3) := by decide +kernel
theorem dL_cell_6 : decode cL_cell 6 = .ok (.aload_n 0, 1) := by decide +kernel
theorem dL_cell_7 : decode cL_cell 7 = .ok (.iload_n 1, 1) := by decide +kernel
theorem dL_cell_8 : decode cL_cell 8 = .ok (.iaload, 1) := by decide +kernel
theorem dL_cell_9 : decode cL_cell 9 = .ok (.goto 9, 3) := by decide +kernel
theorem dL_cell_12 : decode cL_cell 12 = .ok (.ldc 27, 2) := by decide +kernel
theorem dL_cell_14 : decode cL_cell 14 = .ok (.iload_n 1, 1) := by decide +kernel
theorem dL_cell_15 : decode cL_cell 15 = .ok (.iconst 1, 1) := by decide +kernel
theorem dL_cell_16 : decode cL_cell 16 = .ok (.iadd, 1) := by decide +kernel
theorem dL_cell_17 : decode cL_cell 17 = .ok (.imul, 1) := by decide +kernel
theorem dL_cell_18 : decode cL_cell 18 = .ok (.ireturn, 1) := by decide +kernel
theorem dL_low_0 : decode cL_low 0 = .ok (.iload_n 0, 1) := by decide +kernel
theorem dL_low_1 : decode cL_low 1 = .ok (.ldc 28, 2) := by decide +kernel
theorem dL_low_3 : decode cL_low 3 = .ok (.iand, 1) := by decide +kernel
theorem dL_low_4 : decode cL_low 4 = .ok (.iload_n 1, 1) := by decide +kernel
theorem dL_low_5 : decode cL_low 5 = .ok (.irem, 1) := by decide +kernel
theorem dL_low_6 : decode cL_low 6 = .ok (.ireturn, 1) := by decide +kernel
/-- what the argument says at a place -/
def l_cell (n : Nat) (f : Nat → Int32) (k : Nat) : Int32 := if k < n then f k else 790386105 * nI (k + 1)
/-- the argument stands, apart from what may be changed -/
def xX (b n : Nat) (f : Nat → Int32) (wl : va_W) (U : State) : Prop := va_X b n f U U.heap ∧ ¬ va_A wl U.heap.size b
theorem m_cell (l : Launch) {D : va_G} {cA : Nat → ClassId} {z : Nat → Nat} {wl : va_W} {sz b n k : Nat} {f : Nat → Int32} (hn : n < 2 ^ 31) (hk : k ≤ 100) {fr lo : Nat} :
    Met l yL_cell (Cond.code yL_cell cL_cell 2 (some .int) :: wsL_law) ({ frames := fr, cells := 0, slots := 0, locals := lo }) (va_Pc [.ref b, .int (nI k)] (fun U => sx_Pre D cA z wl sz U ∧ xX b n f wl U)) (sx_Q (fun (v : Option Value) (_ : Unit) => v = some (.int (l_cell n f k))) (fun _ t => va_P D vwCl wl t.heap ∧ va_D (va_A wl sz) wl) (va_A wl sz)) 0 0 (va_A wl sz) := by
  refine Met.ofW (cc := cL_cell) (maxL := 2) (ret := some .int) (by decide) rfl ?_
  intro p e s m args below meth c s₁ Bd hml hv
  obtain ⟨rfl, ⟨hsz, hP, hK, hD0, hZ⟩, hX, hbA⟩ := hv
  subst hsz
  have hbl : b < s.heap.size := Nat.not_le.mp (fun q => hbA (.inr q))
  have hx := Bd.exec
  have hb := Bd.bytes
  have hr := Bd.returns
  have hts : ∀ w ∈ wsL_law, w.before [.ref b, .int (nI k)].toArray s = true := fun w hw => atoms_spec Bd.pre w (List.mem_cons_of_mem _ hw)
  have hown : s.vm.findClass RL = some m.cls := findClass_of_methodNamed Bd.named
  have hlocks := Bd.notSynchronized
  have hD := hD0.self (sz := s.heap.size)
  have hS : va_S (va_A wl s.heap.size) s.heap s.heap [] := va_S.rf
  have hl := lv_entry ([.ref b, .int (nI k)]) (n := 2) (Nat.le_of_ble_eq_true rfl)
  rw [lg_entry_eq]
  generalize (lg_sl ([.ref b, .int (nI k)]) ++ List.replicate (2 - (lg_sl ([.ref b, .int (nI k)])).length) Slot.unset).toArray = ls at hl ⊢
  have hl : lv_has ls 2 [(0, .ref b), (1, .int (nI k))] := hl
  refine lv_iload_n hx hb dL_cell_0 rfl (lv_at hl 1 rfl) ?_
  refine lv_aload_n hx hb dL_cell_1 rfl (lv_at hl 0 rfl) ?_
  refine va_slen hx hb hX hbl hbA hS dL_cell_2 ?_
  refine lv_icmp_ge (tgt := 12) hx hb dL_cell_3 (by decide) (fun cx => ?_) (fun cx => ?_)
  · have hkn : ¬ k < n := fun q => nI_ge q hn cx
    refine lv_ldc hx hb hown (hts _ (sx_has_in sx_tb_ok (t := 3048) (w := .constant RL 27 790386105) (by decide +kernel))) dL_cell_12 ?_
    refine lv_iload_n hx hb dL_cell_14 rfl (lv_at hl 1 rfl) ?_
    refine lv_iconst hx hb dL_cell_15 (v := 1) rfl ?_
    refine lv_iadd hx hb dL_cell_16 ?_
    refine lv_imul hx hb dL_cell_17 ?_
    rw [nI_1]
    exact W.iret (v := 790386105 * nI (k + 1)) hx hb hr (fun t ht hW => ⟨⟨some (.int (790386105 * nI (k + 1))), (), rfl, by unfold l_cell; rw [if_neg hkn], by rw [ht]; exact hP, hD⟩, hS.F ht⟩) hS.2.2 dL_cell_18
  · have hkn : k < n := by
      rcases Nat.lt_or_ge k n with q | q
      · exact q
      · exact absurd (nI_le q (by omega)) cx
    refine lv_aload_n hx hb dL_cell_6 rfl (lv_at hl 0 rfl) ?_
    refine lv_iload_n hx hb dL_cell_7 rfl (lv_at hl 1 rfl) ?_
    refine va_sld hx hb hX hbl hbA hS (vp_in_nI hkn hn) dL_cell_8 ?_
    rw [nI_clamp (n := k) (by omega)]
    refine lv_goto (tgt := 18) hx hb dL_cell_9 (by decide) ?_
    exact W.iret (v := f k) hx hb hr (fun t ht hW => ⟨⟨some (.int (f k)), (), rfl, by unfold l_cell; rw [if_pos hkn], by rw [ht]; exact hP, hD⟩, hS.F ht⟩) hS.2.2 dL_cell_18
theorem m_low (l : Launch) {D : va_G} {cA : Nat → ClassId} {z : Nat → Nat} {wl : va_W} {sz : Nat} {v n : Int32} (hn : ¬ n = 0) {fr lo : Nat} :
    Met l yL_low (Cond.code yL_low cL_low 2 (some .int) :: wsL_law) ({ frames := fr, cells := 0, slots := 0, locals := lo }) (va_Pc [.int v, .int n] (sx_Pre D cA z wl sz)) (sx_Q (fun (r : Option Value) (_ : Unit) => r = some (.int ((v &&& 2147483647) - (v &&& 2147483647) / n * n))) (fun _ t => va_P D vwCl wl t.heap ∧ va_D (va_A wl sz) wl) (va_A wl sz)) 0 0 (va_A wl sz) := by
  refine Met.ofW (cc := cL_low) (maxL := 2) (ret := some .int) (by decide) rfl ?_
  intro p e s m args below meth c s₁ Bd hml hv
  obtain ⟨rfl, hsz, hP, hK, hD0, hZ⟩ := hv
  subst hsz
  have hx := Bd.exec
  have hb := Bd.bytes
  have hr := Bd.returns
  have hts : ∀ w ∈ wsL_law, w.before [.int v, .int n].toArray s = true := fun w hw => atoms_spec Bd.pre w (List.mem_cons_of_mem _ hw)
  have hown : s.vm.findClass RL = some m.cls := findClass_of_methodNamed Bd.named
  have hlocks := Bd.notSynchronized
  have hD := hD0.self (sz := s.heap.size)
  have hS : va_S (va_A wl s.heap.size) s.heap s.heap [] := va_S.rf
  have hl := lv_entry ([.int v, .int n]) (n := 2) (Nat.le_of_ble_eq_true rfl)
  rw [lg_entry_eq]
  generalize (lg_sl ([.int v, .int n]) ++ List.replicate (2 - (lg_sl ([.int v, .int n])).length) Slot.unset).toArray = ls at hl ⊢
  have hl : lv_has ls 2 [(0, .int v), (1, .int n)] := hl
  refine lv_iload_n hx hb dL_low_0 rfl (lv_at hl 0 rfl) ?_
  refine lv_ldc hx hb hown (hts _ (sx_has_in sx_tb_ok (t := 3052) (w := .constant RL 28 2147483647) (by decide +kernel))) dL_low_1 ?_
  refine lv_iand hx hb dL_low_3 ?_
  refine lv_iload_n hx hb dL_low_4 rfl (lv_at hl 1 rfl) ?_
  refine lv_irem hx hb dL_low_5 hn ?_
  exact W.iret (v := ((v &&& 2147483647) - (v &&& 2147483647) / n * n)) hx hb hr (fun t ht hW => ⟨⟨some (.int ((v &&& 2147483647) - (v &&& 2147483647) / n * n)), (), rfl, rfl, by rw [ht]; exact hP, hD⟩, hS.F ht⟩) hS.2.2 dL_low_6
