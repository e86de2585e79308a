def wsJ7_copyOf_6403c : List Cond := .code yJ7_copyOf_6403c cJ7_copyOf_6403c 4 (some (.array (.object "java/lang/Object"))) :: ([.classLink RJ7 110 "[Ljava/lang/Object;", .classLink RJ7 2 "java/lang/Object", .methodLink RJ7 304 Lib.Math.min.name, .static Lib.Math.min.name, .initialized "java/lang/Math", .code Lib.Math.min.name Lib.Math.min.code 2 (some .int), .methodLink RJ7 150 arraycopyName, .native arraycopyName, .static arraycopyName, .initialized "java/lang/System"])
def wsJ7_copyOf_1904c : List Cond := .code yJ7_copyOf_1904c cJ7_copyOf_1904c 2 (some (.array (.object "java/lang/Object"))) :: ([.methodLink RJ7 86 ⟨"java/lang/Object", "getClass", "()Ljava/lang/Class;"⟩, .selects "[Ljava/lang/Object;" ⟨"java/lang/Object", "getClass", "()Ljava/lang/Class;"⟩ ⟨"java/lang/Object", "getClass", "()Ljava/lang/Class;"⟩, .instanceMethod ⟨"java/lang/Object", "getClass", "()Ljava/lang/Class;"⟩, .native ⟨"java/lang/Object", "getClass", "()Ljava/lang/Class;"⟩, .methodLink RJ7 300 yJ7_copyOf_6403c, .static yJ7_copyOf_6403c, .initialized RJ7, .code yJ7_copyOf_6403c cJ7_copyOf_6403c 4 (some (.array (.object "java/lang/Object"))), .classLink RJ7 110 "[Ljava/lang/Object;", .classLink RJ7 2 "java/lang/Object", .methodLink RJ7 304 Lib.Math.min.name, .static Lib.Math.min.name, .initialized "java/lang/Math", .code Lib.Math.min.name Lib.Math.min.code 2 (some .int), .methodLink RJ7 150 arraycopyName, .native arraycopyName, .static arraycopyName, .initialized "java/lang/System"])
theorem dJ7_copyOf_1904c_0 : decode cJ7_copyOf_1904c 0 = .ok (.aload_n 0, 1) := by decide +kernel
theorem dJ7_copyOf_1904c_1 : decode cJ7_copyOf_1904c 1 = .ok (.iload_n 1, 1) := by decide +kernel
theorem dJ7_copyOf_1904c_2 : decode cJ7_copyOf_1904c 2 = .ok (.aload_n 0, 1) := by decide +kernel
theorem dJ7_copyOf_1904c_3 : decode cJ7_copyOf_1904c 3 = .ok (.invokevirtual 86, 3) := by decide +kernel
theorem dJ7_copyOf_1904c_6 : decode cJ7_copyOf_1904c 6 = .ok (.invokestatic 300, 3) := by decide +kernel
theorem dJ7_copyOf_1904c_9 : decode cJ7_copyOf_1904c 9 = .ok (.areturn, 1) := by decide +kernel
theorem dJ7_copyOf_6403c_0 : decode cJ7_copyOf_6403c 0 = .ok (.aload_n 2, 1) := by decide +kernel
theorem dJ7_copyOf_6403c_1 : decode cJ7_copyOf_6403c 1 = .ok (.ldc 110, 2) := by decide +kernel
theorem dJ7_copyOf_6403c_3 : decode cJ7_copyOf_6403c 3 = .ok (.if_acmp .ne 10, 3) := by decide +kernel
theorem dJ7_copyOf_6403c_6 : decode cJ7_copyOf_6403c 6 = .ok (.iload_n 1, 1) := by decide +kernel
theorem dJ7_copyOf_6403c_7 : decode cJ7_copyOf_6403c 7 = .ok (.anewarray 2, 3) := by decide +kernel
theorem dJ7_copyOf_6403c_10 : decode cJ7_copyOf_6403c 10 = .ok (.goto 14, 3) := by decide +kernel
theorem dJ7_copyOf_6403c_13 : decode cJ7_copyOf_6403c 13 = .ok (.aload_n 2, 1) := by decide +kernel
theorem dJ7_copyOf_6403c_14 : decode cJ7_copyOf_6403c 14 = .ok (.invokevirtual 90, 3) := by decide +kernel
theorem dJ7_copyOf_6403c_17 : decode cJ7_copyOf_6403c 17 = .ok (.iload_n 1, 1) := by decide +kernel
theorem dJ7_copyOf_6403c_18 : decode cJ7_copyOf_6403c 18 = .ok (.invokestatic 95, 3) := by decide +kernel
theorem dJ7_copyOf_6403c_21 : decode cJ7_copyOf_6403c 21 = .ok (.checkcast 110, 3) := by decide +kernel
theorem dJ7_copyOf_6403c_24 : decode cJ7_copyOf_6403c 24 = .ok (.astore_n 3, 1) := by decide +kernel
theorem dJ7_copyOf_6403c_25 : decode cJ7_copyOf_6403c 25 = .ok (.aload_n 0, 1) := by decide +kernel
theorem dJ7_copyOf_6403c_26 : decode cJ7_copyOf_6403c 26 = .ok (.iconst 0, 1) := by decide +kernel
theorem dJ7_copyOf_6403c_27 : decode cJ7_copyOf_6403c 27 = .ok (.aload_n 3, 1) := by decide +kernel
theorem dJ7_copyOf_6403c_28 : decode cJ7_copyOf_6403c 28 = .ok (.iconst 0, 1) := by decide +kernel
theorem dJ7_copyOf_6403c_29 : decode cJ7_copyOf_6403c 29 = .ok (.aload_n 0, 1) := by decide +kernel
theorem dJ7_copyOf_6403c_30 : decode cJ7_copyOf_6403c 30 = .ok (.arraylength, 1) := by decide +kernel
theorem dJ7_copyOf_6403c_31 : decode cJ7_copyOf_6403c 31 = .ok (.iload_n 1, 1) := by decide +kernel
theorem dJ7_copyOf_6403c_32 : decode cJ7_copyOf_6403c 32 = .ok (.invokestatic 304, 3) := by decide +kernel
theorem dJ7_copyOf_6403c_35 : decode cJ7_copyOf_6403c 35 = .ok (.invokestatic 150, 3) := by decide +kernel
theorem dJ7_copyOf_6403c_38 : decode cJ7_copyOf_6403c 38 = .ok (.aload_n 3, 1) := by decide +kernel
theorem dJ7_copyOf_6403c_39 : decode cJ7_copyOf_6403c 39 = .ok (.areturn, 1) := by decide +kernel
/-! Arrays.copyOf of a row of Objects, by hand -/
abbrev cq_q (f : Nat → Option Nat) : (Nat → Int32) ⊕ (Nat → Int64) ⊕ (Nat → UInt32) ⊕ (Nat → UInt64) ⊕ (Nat → Option Nat) := .inr (.inr (.inr (.inr f)))
abbrev va_E_q (c : ClassId) (k : Nat) : va_E := .inl (c, k, cq_q (fun _ => none))
abbrev cq_new (cA : Nat → ClassId) (wl : va_W) (u k n : Nat) (f : Nat → Option Nat) : va_W := wl ++ [(u, .inl (cA 11, k, cq_q (va_cpy f (fun _ => none) 0 0 n)))]
theorem cq_set {α : Type} (l : List α) (x y : α) : (l ++ [x]).set l.length y = l ++ [y] := by simp
theorem m_cq3 (l : Launch) {D : va_G} {cA : Nat → ClassId} {z : Nat → Nat} {wl : va_W} {sz a n k q0 mi : Nat} {f : Nat → Option Nat} (h0 : wl[q0]? = some (a, .inl (cA 11, n, cq_q f))) (hnk : n ≤ k) (hk : k ≤ 1000000) (hel : ∀ i, i < n → ∀ y, f i = some y → ∃ (j : Nat) (xs : List Value), wl[j]? = some (y, .inr (6, xs))) :
    Met l yJ7_copyOf_6403c (Cond.code yJ7_copyOf_6403c cJ7_copyOf_6403c 4 (some (.array (.object "java/lang/Object"))) :: wsL_law) ({ frames := 1, cells := 1, slots := k, locals := 60 }) (va_Pc [.ref a, .int (nI k), .ref mi] (fun U => sx_Pre D cA z wl sz U ∧ va_Mi "[Ljava/lang/Object;" mi U)) (sx_Q (fun (v : Option Value) (u : Nat) => v = some (.ref u)) (fun u t => va_P D vwCl (cq_new cA wl u k n f) t.heap ∧ va_D (va_A wl sz) (cq_new cA wl u k n f)) (va_A wl sz)) 1 k (va_A wl sz) := by
  refine Met.ofW (cc := cJ7_copyOf_6403c) (maxL := 4) (ret := some (.array (.object "java/lang/Object"))) (by decide) rfl ?_
  intro p e s m args below meth c s₁ Bd hml hv
  obtain ⟨rfl, ⟨hsz, hP, hK, hD0, hZ⟩, hMi⟩ := hv
  subst hsz
  have hx := Bd.exec
  have hb := Bd.bytes
  have hr := Bd.returns
  have hts : ∀ w ∈ wsL_law, w.before [.ref a, .int (nI k), .ref mi].toArray s = true := fun w hw => atoms_spec Bd.pre w (List.mem_cons_of_mem _ hw)
  have hown : s.vm.findClass RJ7 = some m.cls := findClass_of_methodNamed Bd.named
  have hlocks := Bd.notSynchronized
  have hD := hD0.self (sz := s.heap.size)
  have hA : ∀ q : Nat, s.heap.size ≤ q → va_A wl s.heap.size q := fun q h => Or.inr h
  have hS : va_S (va_A wl s.heap.size) s.heap s.heap [] := va_S.rf
  have hl := lv_entry ([.ref a, .int (nI k), .ref mi]) (n := 4) (Nat.le_of_ble_eq_true rfl)
  rw [lg_entry_eq]
  generalize (lg_sl ([.ref a, .int (nI k), .ref mi]) ++ List.replicate (4 - (lg_sl ([.ref a, .int (nI k), .ref mi])).length) Slot.unset).toArray = ls at hl ⊢
  have hl : lv_has ls 4 [(0, .ref a), (1, .int (nI k)), (2, .ref mi)] := hl
  refine lv_aload_n hx hb dJ7_copyOf_6403c_0 rfl (lv_at hl 2 rfl) ?_
  refine va_ldcM hx hb hown (hts _ (sx_has_in sx_tb_ok (t := 808) (w := .classLink RJ7 110 "[Ljava/lang/Object;") (by decide +kernel))) hMi dJ7_copyOf_6403c_1 ?_
  refine lv_acmp_ne (rx := some mi) (ry := some mi) (tgt := 13) hx hb dJ7_copyOf_6403c_3 (by decide) (fun q => absurd rfl q) (fun _ => ?_)
  refine lv_iload_n hx hb dJ7_copyOf_6403c_6 rfl (lv_at hl 1 rfl) ?_
  have lst : ∀ {cB : ClassId}, (sx_tys cA ++ [(cB, .object "java/lang/Object")])[(sx_tys cA).length]? = some (cB, .object "java/lang/Object") := fun {cB} => by rw [List.getElem?_append_right (Nat.le_refl _), Nat.sub_self]; rfl
  have old : ∀ {cB : ClassId}, (sx_tys cA ++ [(cB, .object "java/lang/Object")])[11]? = some (cA 11, .object "java/lang/Object") := fun {cB} => rfl
  have hover : va_AO "java/lang/Object" s := va_AO.of (A := #[]) (hZ.2.2.2.2.2.2.2.2.2.2 (.arrayOver (.object "java/lang/Object")) (by decide +kernel))
  refine va_newq hx hb hown (hts _ (sx_has_in sx_tb_ok (t := 809) (w := .classLink RJ7 2 "java/lang/Object") (by decide +kernel))) hover hK hP hD hS hA (nI_pos (by omega)) (nI_clamp (by omega)) (by omega) (Nat.le_refl 1) (Nat.le_of_eq (Nat.zero_add k)) dJ7_copyOf_6403c_7 (fun q cB H1 hK1 hP1 hD1 hS1 => ?_)
  have eB := sx_cA hK1 lst old
  subst eB
  refine lv_goto (tgt := 24) hx hb dJ7_copyOf_6403c_10 (by decide) ?_
  refine lv_astore_n hx hb dJ7_copyOf_6403c_24 rfl hl (by decide) rfl (fun ls hl => ?_)
  have h0' : (wl ++ [(q, va_E_q (cA 11) k)])[q0]? = some (a, .inl ((cA 11), n, cq_q f)) := by rw [List.getElem?_append_left (List.getElem?_eq_some_iff.mp h0).1]; exact h0
  refine lv_aload_n hx hb dJ7_copyOf_6403c_25 rfl (lv_at hl 1 rfl) ?_
  refine lv_iconst hx hb dJ7_copyOf_6403c_26 (v := 0) rfl ?_
  refine lv_aload_n hx hb dJ7_copyOf_6403c_27 rfl (lv_at hl 0 rfl) ?_
  refine lv_iconst hx hb dJ7_copyOf_6403c_28 (v := 0) rfl ?_
  refine lv_aload_n hx hb dJ7_copyOf_6403c_29 rfl (lv_at hl 1 rfl) ?_
  refine va_alen hx hb hK hP1 q0 11 h0' (ty := .object "java/lang/Object") rfl (v := nI n) rfl dJ7_copyOf_6403c_30 ?_
  refine lv_iload_n hx hb dJ7_copyOf_6403c_31 rfl (lv_at hl 2 rfl) ?_
  refine va_mmin hx hb (by rw [hml]; exact hl.1.symm) hown (hts _ (sx_has_in sx_tb_ok (t := 228) (w := .methodLink RJ7 304 Lib.Math.min.name) (by decide +kernel))) (hts _ (sx_has_in sx_tb_ok (t := 229) (w := .static Lib.Math.min.name) (by decide +kernel))) (hts _ (sx_has_in sx_tb_ok (t := 230) (w := .initialized "java/lang/Math") (by decide +kernel))) (hts _ (sx_has_in sx_tb_ok (t := 231) (w := .code Lib.Math.min.name Lib.Math.min.code 2 (some .int)) (by decide +kernel))) (Nat.le_refl 1) (by exact Nat.le_of_ble_eq_true rfl) (Nat.le_refl 1) (Nat.le_of_eq (Nat.zero_add k)) dJ7_copyOf_6403c_32 ?_
  rw [if_neg (nI_nlt (by omega) (by omega) : ¬ nI k < nI n)]
  have hcl : (nI n).toNatClampNeg = n := nI_clamp (by omega)
  have hnew : (wl ++ [(q, va_E_q (cA 11) k)])[wl.length]? = some (q, va_E_q (cA 11) k) := by rw [List.getElem?_append_right (Nat.le_refl _), Nat.sub_self]; rfl
  refine va_copyq (E0 := "java/lang/Object") (E1 := "java/lang/Object") (C := "GoalHouse$Node") hx hb (by rw [hml]; exact hl.1.symm) hown (hts _ (sx_has_in sx_tb_ok (t := 232) (w := .methodLink RJ7 150 arraycopyName) (by decide +kernel))) (hts _ (sx_has_in sx_tb_ok (t := 233) (w := .native arraycopyName) (by decide +kernel))) (hts _ (sx_has_in sx_tb_ok (t := 234) (w := .static arraycopyName) (by decide +kernel))) (hts _ (sx_has_in sx_tb_ok (t := 235) (w := .initialized "java/lang/System") (by decide +kernel))) hK hP1 hD1 hS1 q0 wl.length 11 11 h0' hnew rfl rfl (by decide) (by decide) (nI_pos (by omega)) (by rw [hcl]; show 0 + n ≤ n; omega) (by rw [hcl]; show 0 + n ≤ k; omega) (fun i hi y hy => ?_) (fun comp c0 g1 g2 => vb_asgC (hZ.2.2.2.2.2.2.2.2.2.2 (.castable "GoalHouse$Node" "java/lang/Object") (by decide +kernel)) comp c0 g1 g2) (Nat.le_refl 1) (by show 0 + (nativeFrameWords "java/lang/System" "arraycopy" 5 + 11) ≤ 60; decide) dJ7_copyOf_6403c_35 (fun H2 locs2 hP2 hD2 hS2 => ?_)
  · rw [hcl] at hi
    have hy : f (0 + i) = some y := hy
    rw [Nat.zero_add] at hy
    obtain ⟨j, xs, hj⟩ := hel i hi y hy
    have hj' : (wl ++ [(q, va_E_q (cA 11) k)])[j]? = some (y, .inr (6, xs)) := by rw [List.getElem?_append_left (List.getElem?_eq_some_iff.mp hj).1]; exact hj
    exact va_recv hK hP1 (ci := 6) rfl hj'
  rw [hcl] at hP2 hD2
  have e : (wl ++ [(q, va_E_q (cA 11) k)]).set wl.length (q, .inl ((cA 11), k, cq_q (va_cpy f (fun _ => none) (0 : Int32).toNatClampNeg (0 : Int32).toNatClampNeg n))) = cq_new cA wl q k n f := by
    exact cq_set wl _ _
  refine lv_aload_n hx hb dJ7_copyOf_6403c_38 rfl (lv_at hl 0 rfl) ?_
  refine W.widen (k := 1) (n := k) (Nat.le_refl 1) (by omega) ?_
  rw [show (wl ++ [(q, .inl ((cA 11), k, .inr (.inr (.inr (.inr (fun _ => none))))))] : va_W) = wl ++ [(q, va_E_q (cA 11) k)] from rfl] at hP2 hD2
  exact W.aret (v := .ref q) hx hb hr (Or.inr ⟨_, rfl⟩) (Or.inr ⟨q, rfl⟩) (fun t ht hW => ⟨⟨some (.ref q), q, rfl, rfl, by rw [ht, ← e]; exact hP2, by rw [← e]; exact hD2⟩, hS2.F ht⟩) hS2.2.2 dJ7_copyOf_6403c_39
theorem m_cq2 (l : Launch) {D : va_G} {cA : Nat → ClassId} {z : Nat → Nat} {wl : va_W} {sz a n k q0 : Nat} {f : Nat → Option Nat} (h0 : wl[q0]? = some (a, .inl (cA 11, n, cq_q f))) (hnk : n ≤ k) (hk : k ≤ 1000000) (hel : ∀ i, i < n → ∀ y, f i = some y → ∃ (j : Nat) (xs : List Value), wl[j]? = some (y, .inr (6, xs))) {fr lo : Nat} (hfr : 2 ≤ fr) (hlo : 90 ≤ lo) :
    Met l yJ7_copyOf_1904c (Cond.code yJ7_copyOf_1904c cJ7_copyOf_1904c 2 (some (.array (.object "java/lang/Object"))) :: wsL_law) ({ frames := fr, cells := 1, slots := k, locals := lo }) (va_Pc [.ref a, .int (nI k)] (sx_Pre D cA z wl sz)) (sx_Q (fun (v : Option Value) (u : Nat) => v = some (.ref u)) (fun u t => va_P D vwCl (cq_new cA wl u k n f) t.heap ∧ va_D (va_A wl sz) (cq_new cA wl u k n f)) (va_A wl sz)) 1 k (va_A wl sz) := by
  refine Met.ofW (cc := cJ7_copyOf_1904c) (maxL := 2) (ret := some (.array (.object "java/lang/Object"))) (by decide) rfl ?_
  intro p e s m args below meth c s₁ Bd hml hv
  obtain ⟨rfl, hsz, hP, hK, hD0, hZ⟩ := hv
  subst hsz
  have hx := Bd.exec
  have hb := Bd.bytes
  have hr := Bd.returns
  have hts : ∀ w ∈ wsL_law, w.before [.ref a, .int (nI k)].toArray s = true := fun w hw => atoms_spec Bd.pre w (List.mem_cons_of_mem _ hw)
  have hown : s.vm.findClass RJ7 = some m.cls := findClass_of_methodNamed Bd.named
  have hlocks := Bd.notSynchronized
  have hD := hD0.self (sz := s.heap.size)
  have hA : ∀ q : Nat, s.heap.size ≤ q → va_A wl s.heap.size q := fun q h => Or.inr h
  have hS : va_S (va_A wl s.heap.size) s.heap s.heap [] := va_S.rf
  have hl := lv_entry ([.ref a, .int (nI k)]) (n := 2) (Nat.le_of_ble_eq_true rfl)
  rw [lg_entry_eq]
  generalize (lg_sl ([.ref a, .int (nI k)]) ++ List.replicate (2 - (lg_sl ([.ref a, .int (nI k)])).length) Slot.unset).toArray = ls at hl ⊢
  have hl : lv_has ls 2 [(0, .ref a), (1, .int (nI k))] := hl
  obtain ⟨mi, hMi⟩ := va_Mi.of (args := #[]) (hZ.2.2.2.2.2.2.2.2.2.2 (.isRef (.mirror "[Ljava/lang/Object;")) (List.mem_of_getElem? (i := 32) rfl))
  have hdecl := va_Nw.use (A := [Value.ref a, .int (nI k)].toArray) rfl (hZ.2.2.2.2.2.2.2.2.2.2 (.declares ⟨"java/lang/Object", "getClass", "()Ljava/lang/Class;"⟩) (List.mem_of_getElem? (i := 31) rfl))
  refine lv_aload_n hx hb dJ7_copyOf_1904c_0 rfl (lv_at hl 0 rfl) ?_
  refine lv_iload_n hx hb dJ7_copyOf_1904c_1 rfl (lv_at hl 1 rfl) ?_
  refine lv_aload_n hx hb dJ7_copyOf_1904c_2 rfl (lv_at hl 0 rfl) ?_
  have hcell : ∃ cell : Cell, s.heap[a]? = some cell ∧ cell.vm.isStatics = false ∧ s.vm.findClass "[Ljava/lang/Object;" = some cell.cls := by
    have h9 := hP q0 _ h0
    exact ⟨_, h9, rfl, va_nmO (hK.2 11 _ (sx_tys_at (cA := cA) (k := 11) rfl)).2 rfl⟩
  refine va_getC hx hb (by rw [hml]; exact hl.1.symm) hown (hts _ (sx_has_in sx_tb_ok (t := 801) (w := .methodLink RJ7 86 ⟨"java/lang/Object", "getClass", "()Ljava/lang/Class;"⟩) (by decide +kernel))) hdecl (hts _ (sx_has_in sx_tb_ok (t := 802) (w := .selects "[Ljava/lang/Object;" ⟨"java/lang/Object", "getClass", "()Ljava/lang/Class;"⟩ ⟨"java/lang/Object", "getClass", "()Ljava/lang/Class;"⟩) (by decide +kernel))) (hts _ (sx_has_in sx_tb_ok (t := 803) (w := .instanceMethod ⟨"java/lang/Object", "getClass", "()Ljava/lang/Class;"⟩) (by decide +kernel))) (hts _ (sx_has_in sx_tb_ok (t := 804) (w := .native ⟨"java/lang/Object", "getClass", "()Ljava/lang/Class;"⟩) (by decide +kernel))) hMi hcell (show 1 ≤ fr by omega) (show 2 + 14 ≤ lo by omega) dJ7_copyOf_1904c_3 ?_
  have hG : GoodIn wsL_law (Cond.code yJ7_copyOf_6403c cJ7_copyOf_6403c 4 (some (.array (.object "java/lang/Object"))) :: wsL_law) := fun w9 hw9 => by
    rcases List.mem_cons.mp hw9 with rfl | hw9
    · exact ⟨sx_has_in sx_tb_ok (t := 807) (by decide +kernel), sx_good _ (sx_has_in sx_tb_ok (t := 807) (by decide +kernel))⟩
    · exact ⟨hw9, sx_good _ hw9⟩
  have hCF : CallFix p m c cJ7_copyOf_1904c 2 s [.ref a, .int (nI k)].toArray wsL_law RJ7 := ⟨hx, hb, hml, hown, hts⟩
  have blind : FrameBlind (va_Pc [.ref a, .int (nI k), .ref mi] (fun U => sx_Pre D cA z wl s.heap.size U ∧ va_Mi "[Ljava/lang/Object;" mi U)) := fun a U g mk q => by
    obtain ⟨q0, ⟨q1, qP, qK, qD, qZ⟩, qM⟩ := q
    exact ⟨q0, ⟨q1, qP, va_K.moved (u := U) (U := U.calling g mk a) (Vm.Alike.refl U.vm) qK, qD, SR.moved (u := U) (U := U.calling g mk a) (State.WarmedH.refl U) qZ⟩, va_Mi.moved (u := U) (U := U.calling g mk a) (Vm.Alike.refl U.vm) qM⟩
  refine sx_callW (va_runS (As := [.ref a, .int (nI k), .ref mi]) (rest := []) hCF (m_cq3 l (D := D) (z := z) (sz := s.heap.size) h0 hnk hk hel) ⟨callB_of 3 hts hG rfl rfl rfl (hts _ (sx_has_in sx_tb_ok (t := 209) (w := .initialized RJ7) (by decide +kernel))) (hts _ (sx_has_in sx_tb_ok (t := 805) (w := .methodLink RJ7 300 yJ7_copyOf_6403c) (by decide +kernel))) ⟨by decide, by decide, by decide +kernel⟩ ⟨show 1 + 1 ≤ fr by omega, show 8 + (4 + 11) + 60 ≤ lo by omega⟩, (hts _ (sx_has_in sx_tb_ok (t := 806) (w := .static yJ7_copyOf_6403c) (by decide +kernel)))⟩ ⟨blind, fun U hU hW => ⟨rfl, ⟨by rw [hU], by rw [hU]; exact hP, va_K.moved hW.alike hK, hD0, by rw [hU]; exact SR.moved hW hZ⟩, va_Mi.moved hW.alike hMi⟩⟩ rfl rfl hl.1 rfl (by exact Nat.le_of_ble_eq_true rfl) dJ7_copyOf_1904c_6 ⟨Nat.le_of_eq (Nat.zero_add 1), Nat.le_of_eq (Nat.zero_add k)⟩) hS (fun q _ h => h) (fun q h => h) (fun v u t H1 locs1 ht hvm hp hB hS1 => ?_)
  subst hp
  refine W.widen (k := 1) (n := k) (Nat.le_refl 1) (by omega) ?_
  exact W.aret (v := .ref u) hx hb hr (Or.inr ⟨_, rfl⟩) (Or.inr ⟨u, rfl⟩) (fun t2 ht2 hW => ⟨⟨some (.ref u), u, rfl, rfl, by rw [ht2, ← ht]; exact hB.1, hB.2⟩, hS1.F ht2⟩) hS1.2.2 dJ7_copyOf_1904c_9
