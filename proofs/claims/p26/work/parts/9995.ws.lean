/-! what the Statement gives of the start -/
def ws_L : List Cond := flatC (Jvm.Cond.and given_1 narrow_1)
def ws_sub : List Cond → List Cond → Bool
  | [], _ => true
  | _ :: _, [] => false
  | x :: xs, y :: ys => bif decide (x = y) then ws_sub xs ys else ws_sub (x :: xs) ys
theorem ws_sub_mem : ∀ {ys xs : List Cond}, ws_sub xs ys = true → ∀ x ∈ xs, x ∈ ys
  | _, [], _, x, hx => by cases hx
  | [], _ :: _, h, _, _ => by
    unfold ws_sub at h
    cases h
  | y :: ys, a :: xs, h, x, hx => by
    have h : (bif decide (a = y) then ws_sub xs ys else ws_sub (a :: xs) ys) = true := by
      unfold ws_sub at h
      exact h
    cases hd : decide (a = y) with
    | true =>
      rw [hd] at h
      have h : ws_sub xs ys = true := h
      have e := of_decide_eq_true hd
      rcases List.mem_cons.mp hx with e2 | hx
      · rw [e2, e]
        exact List.mem_cons_self
      · exact List.mem_cons_of_mem _ (ws_sub_mem h x hx)
    | false =>
      rw [hd] at h
      have h : ws_sub (a :: xs) ys = true := h
      exact List.mem_cons_of_mem _ (ws_sub_mem h x hx)
def ws_tms : List (String × Nat) := [("GoalHouse$Kit", 79), ("java/lang/StringLatin1", 151), ("GoalHouse$Kit", 366), ("GoalHouse$Kit", 368), ("GoalHouse$Kit", 369), ("GoalHouse$Kit", 370), ("GoalHouse$Kit", 372), ("GoalHouse$Kit", 374), ("GoalHouse$Kit", 376), ("GoalHouse$Kit", 378), ("GoalHouse$Kit", 380), ("GoalHouse$Kit", 382), ("GoalHouse$Reader", 126), ("GoalHouse$Reader", 141), ("GoalHouse$Reader", 143), ("GoalHouse$Program", 130), ("GoalHouse$Program", 128), ("GoalHouse$Program", 142), ("GoalHouse$Program", 147), ("GoalHouse$Program", 149), ("GoalHouse$Program", 151), ("GoalHouse$Program", 197), ("GoalHouse$Program", 168), ("GoalHouse$Program", 173), ("GoalHouse$Program", 179), ("GoalHouse$Program", 260), ("GoalHouse$Program", 265), ("GoalHouse$Program", 195), ("GoalHouse$Program", 114), ("GoalHouse$Kit", 335), ("GoalHouse$Kit", 342), ("GoalHouse$Kit", 344), ("GoalHouse$Kit", 346)]
def ws_tm (i : Nat) : Term := .string (ws_tms.getD i ("", 0)).1 (ws_tms.getD i ("", 0)).2
def ws_v (i : Nat) : Term := .field (ws_tm i) "java/lang/String" "value" "[B"
def ws_h (i : Nat) : List Cond := [.exactly (ws_tm i) "java/lang/String", .eq (.field (ws_tm i) "java/lang/String" "coder" "B") (.int 0), .arrayOf (ws_v i) .byte, .eq (.length (ws_v i)) (.int (Int32.ofNat (sk_len.getD i 0)))]
def ws_e (i : Nat) : List Cond := (List.range (sk_len.getD i 0)).map (fun j => .eq (.elem (ws_v i) (.int (Int32.ofNat j))) (.int ((sk_byt.getD i []).getD j 0)))
def ws_tx (i : Nat) : List Cond := ws_h i ++ ws_e i
theorem ws_c0 : ([0, 1, 2, 3, 4, 5, 6, 7] : List Nat).all (fun i => ws_sub (ws_tx i) ws_L) = true := by decide +kernel
theorem ws_c1 : ([8, 9, 10, 11, 12] : List Nat).all (fun i => ws_sub (ws_tx i) ws_L) = true := by decide +kernel
theorem ws_c2 : ([13, 14] : List Nat).all (fun i => ws_sub (ws_tx i) ws_L) = true := by decide +kernel
theorem ws_c3 : ([15, 16, 17, 18, 19, 20, 21, 22, 23, 24, 25] : List Nat).all (fun i => ws_sub (ws_tx i) ws_L) = true := by decide +kernel
theorem ws_c4 : ([26, 27, 28, 29, 30, 31, 32] : List Nat).all (fun i => ws_sub (ws_tx i) ws_L) = true := by decide +kernel
theorem ws_cc : ∀ i, i < 33 → ws_sub (ws_tx i) ws_L = true := fun i hi => by
  have h : ([0, 1, 2, 3, 4, 5, 6, 7, 8, 9, 10, 11, 12, 13, 14, 15, 16, 17, 18, 19, 20, 21, 22, 23, 24, 25, 26, 27, 28, 29, 30, 31, 32] : List Nat).all (fun i => ws_sub (ws_tx i) ws_L) = true := by
    rw [show ([0, 1, 2, 3, 4, 5, 6, 7, 8, 9, 10, 11, 12, 13, 14, 15, 16, 17, 18, 19, 20, 21, 22, 23, 24, 25, 26, 27, 28, 29, 30, 31, 32] : List Nat) = [0, 1, 2, 3, 4, 5, 6, 7] ++ ([8, 9, 10, 11, 12] ++ ([13, 14] ++ ([15, 16, 17, 18, 19, 20, 21, 22, 23, 24, 25] ++ ([26, 27, 28, 29, 30, 31, 32])))) from rfl, List.all_append, List.all_append, List.all_append, List.all_append, ws_c0, ws_c1, ws_c2, ws_c3, ws_c4]
    rfl
  exact List.all_eq_true.mp h i (by have : ([0, 1, 2, 3, 4, 5, 6, 7, 8, 9, 10, 11, 12, 13, 14, 15, 16, 17, 18, 19, 20, 21, 22, 23, 24, 25, 26, 27, 28, 29, 30, 31, 32] : List Nat) = List.range 33 := by decide
                                    rw [this]; exact List.mem_range.mpr hi)
theorem ws_ln : (List.range 33).all (fun i => Nat.blt (sk_len.getD i 0) 1000) = true := by decide +kernel
theorem ws_len {i : Nat} (hi : i < 33) : sk_len.getD i 0 < 2 ^ 31 := by
  have h : sk_len.getD i 0 < 1000 := Nat.le_of_ble_eq_true (List.all_eq_true.mp ws_ln i (List.mem_range.mpr hi))
  omega
theorem ws_OFv {o n d : String} {v w : Value} {a : Nat} {A : Nat → Prop} {U : State} {H : Heap} (h1 : va_OF o n d v a A U H) (h2 : va_OF o n d w a A U H) : v = w := by
  obtain ⟨cf, k, fi, f, cell, a1, a2, a3, a4, a5, a6⟩ := h1
  obtain ⟨cf', k', fi', f', cell', b1, b2, b3, b4, b5, b6⟩ := h2
  cases a1.symm.trans b1
  cases a3.symm.trans b3
  exact Option.some.inj (a5.symm.trans b5)
theorem ws_Teq {ty : FieldType} {t N M : Nat} {f g : Nat → Value} {A : Nat → Prop} {U : State} {H : Heap} (hN : N < 2 ^ 31) (hM : M < 2 ^ 31) (h : va_T ty t N f A U H) (h' : va_T ty t M g A U H) : N = M ∧ ∀ j, j < N → f j = g j := by
  obtain ⟨c, h1, h2, h3, h4, h5, h6, h7⟩ := h
  obtain ⟨c', g1, g2, g3, g4, g5, g6, g7⟩ := h'
  cases h1.symm.trans g1
  have e := congrArg Int32.toNatClampNeg (h5.symm.trans g5)
  rw [Int32.toNatClampNeg_ofNat_of_lt hN, Int32.toNatClampNeg_ofNat_of_lt hM] at e
  exact ⟨e, fun j hj => Option.some.inj ((h6 j hj).symm.trans (g6 j (by rw [← e]; exact hj)))⟩
def ws_same (i j : Nat) : Bool := Nat.beq (sk_len.getD i 0) (sk_len.getD j 0) && (List.range (sk_len.getD i 0)).all (fun k => decide ((sk_byt.getD i []).getD k 0 = (sk_byt.getD j []).getD k 0))
theorem ws_dis : (List.range 33).all (fun i => (List.range 33).all (fun j => Nat.beq i j || !(ws_same i j))) = true := by decide +kernel
theorem ws_dist {i j : Nat} (hi : i < 33) (hj : j < 33) (h : sk_len.getD i 0 = sk_len.getD j 0 ∧ ∀ k, k < sk_len.getD i 0 → Value.int ((sk_byt.getD i []).getD k 0) = Value.int ((sk_byt.getD j []).getD k 0)) : i = j := by
  have h9 := List.all_eq_true.mp (List.all_eq_true.mp ws_dis i (List.mem_range.mpr hi)) j (List.mem_range.mpr hj)
  rw [Bool.or_eq_true] at h9
  rcases h9 with h9 | h9
  · exact Nat.eq_of_beq_eq_true h9
  · exfalso
    have hs : ws_same i j = true := by
      unfold ws_same
      rw [Bool.and_eq_true]
      exact ⟨by rw [h.1]; exact Nat.beq_refl _, List.all_eq_true.mpr fun k hk => decide_eq_true (Value.int.inj (h.2 k (List.mem_range.mp hk)))⟩
    rw [hs] at h9
    cases h9
theorem ws_S {args : Array Value} {s : State} {A : Nat → Prop} (hs : ∀ c ∈ ws_L, c.before args s = true) (hA : ∀ a : Nat, a < s.heap.size → ¬ A a) : ∃ adK adV : Nat → Nat, vk_S 33 sk_len sk_byt adK adV A s s.heap ∧ ∀ i, i < 33 → (ws_tm i).eval args s none [] s = some (.ref (adK i)) := by
  have h0 : ∀ i : Nat, ∃ q : Nat × Nat, i < 33 → (ws_tm i).eval args s none [] s = some (.ref q.1) ∧ (va_O "java/lang/String" q.1 A s s.heap ∧ va_OF "java/lang/String" "coder" "B" (.int 0) q.1 A s s.heap ∧ va_OF "java/lang/String" "value" "[B" (.ref q.2) q.1 A s s.heap ∧ va_T .byte q.2 (sk_len.getD i 0) (fun j => .int ((sk_byt.getD i []).getD j 0)) A s s.heap) := by
    intro i
    by_cases hi : i < 33
    · have ht : ∀ c ∈ ws_tx i, c.before args s = true := fun c hc => hs c (ws_sub_mem (ws_cc i hi) c hc)
      have t0 : (Cond.exactly (ws_tm i) "java/lang/String").before args s = true := ht _ (List.mem_append_left _ (.head _))
      have t1 : (Cond.eq (.field (ws_tm i) "java/lang/String" "coder" "B") (.int 0)).before args s = true := ht _ (List.mem_append_left _ (.tail _ (.head _)))
      have t2 : (Cond.arrayOf (.field (ws_tm i) "java/lang/String" "value" "[B") .byte).before args s = true := ht _ (List.mem_append_left _ (.tail _ (.tail _ (.head _))))
      have t3 : (Cond.eq (.length (.field (ws_tm i) "java/lang/String" "value" "[B")) (.int (Int32.ofNat (sk_len.getD i 0)))).before args s = true := ht _ (List.mem_append_left _ (.tail _ (.tail _ (.tail _ (.head _)))))
      have t4 : ∀ j, j < sk_len.getD i 0 → (Cond.eq (.elem (.field (ws_tm i) "java/lang/String" "value" "[B") (.int (Int32.ofNat j))) (.int ((sk_byt.getD i []).getD j 0))).before args s = true := fun j hj => ht _ (List.mem_append_right _ (List.mem_map.mpr ⟨j, List.mem_range.mpr hj, rfl⟩))
      obtain ⟨adK, adV, h1, h2⟩ := vk_Sof (args := args) (s := s) (N := 1) (tm := fun _ => ws_tm i) (len := [sk_len.getD i 0]) (byt := [sk_byt.getD i []]) (A := A)
        (fun k hk => by obtain rfl : k = 0 := by omega
                        exact ws_len hi) (fun k hk => t0) (fun k hk => t1) (fun k hk => t2) (fun k hk => by obtain rfl : k = 0 := by omega
                                                                                                            exact t3)
        (fun k hk => by obtain rfl : k = 0 := by omega
                        exact t4) (fun a b ha hb hab => absurd (by omega) hab) hA
      exact ⟨(adK 0, adV 0), fun _ => ⟨h2 0 (by decide), h1.1 0 (by decide)⟩⟩
    · exact ⟨(0, 0), fun h => absurd h hi⟩
  obtain ⟨ad, had⟩ := Classical.axiomOfChoice h0
  refine ⟨fun i => (ad i).1, fun i => (ad i).2, ⟨fun i hi => (had i hi).2, fun i j hi hj e => ?_⟩, fun i hi => (had i hi).1⟩
  have a := (had i hi).2
  have b := (had j hj).2
  have e : (ad i).1 = (ad j).1 := e
  have bV := b.2.2.1
  rw [← e] at bV
  have ev : (ad i).2 = (ad j).2 := Value.ref.inj (ws_OFv a.2.2.1 bV)
  have bT := b.2.2.2
  rw [← ev] at bT
  exact ws_dist hi hj (ws_Teq (ws_len hi) (ws_len hj) a.2.2.2 bT)
theorem ws_eqR {args : Array Value} {s : State} {t1 t2 : Term} {a : Nat} (h : (Cond.eq t1 t2).before args s = true) (h1 : t1.eval args s none [] s = some (.ref a)) : t2.eval args s none [] s = some (.ref a) := by
  cases hv : t2.eval args s none [] s with
  | none => simp [Cond.before, Cond.holds, Cond.value, h1, hv] at h
  | some w =>
    simp only [Cond.before, Cond.holds, Cond.value, h1, hv] at h
    cases w <;> simp_all
theorem ws_tab : wl_ck (sk_tab.map (fun q => Cond.stringRef q.1 q.2.1 q.2.2.1)) [(1, 222), (2, 48), (2, 92), (2, 119), (3, 8), (3, 9), (3, 10), (3, 11), (3, 12), (3, 13), (3, 14), (3, 15), (3, 16), (3, 17), (4, 112), (4, 126), (4, 213), (4, 218), (6, 88), (6, 131), (6, 213), (6, 218), (6, 223), (6, 224), (6, 225), (6, 226), (6, 231), (6, 237), (6, 238), (6, 239), (7, 0), (7, 12), (7, 14), (7, 54), (7, 67), (7, 72), (7, 73), (7, 86), (7, 99), (9, 229), (10, 139), (10, 146), (10, 147), (10, 148)] = true := by decide +kernel
theorem ws_rep : sk_tab.all (fun q => Nat.blt q.2.2.2 33 && (decide (ws_tms.getD q.2.2.2 ("", 0) = (q.1, q.2.1)) || ws_sub [.eq (ws_tm q.2.2.2) (.string q.1 q.2.1)] ws_L)) = true := by decide +kernel
theorem ws_R {args : Array Value} {s : State} {adK : Nat → Nat} (hts : ∀ w ∈ lw_tbl, w.before args s = true) (hs : ∀ c ∈ ws_L, c.before args s = true) (hK : ∀ i, i < 33 → (ws_tm i).eval args s none [] s = some (.ref (adK i))) : ∀ q ∈ sk_tab, vk_R q.1 q.2.1 q.2.2.1 (adK q.2.2.2) s := by
  intro q hq
  have h1 : (Cond.stringRef q.1 q.2.1 q.2.2.1).before args s = true := wl_ok hts ws_tab _ (List.mem_map.mpr ⟨q, hq, rfl⟩)
  have h2 := List.all_eq_true.mp ws_rep q hq
  rw [Bool.and_eq_true, Bool.or_eq_true] at h2
  have hi : q.2.2.2 < 33 := Nat.le_of_ble_eq_true h2.1
  refine vk_R.of h1 ?_
  rcases h2.2 with h | h
  · have e := of_decide_eq_true h
    have k := hK _ hi
    unfold ws_tm at k
    rw [e] at k
    exact k
  · exact ws_eqR (hs _ (ws_sub_mem h _ (.head _))) (hK _ hi)
theorem ws_mi {args : Array Value} {s : State} {C : String} (h : (Cond.isRef (.mirror C)).before args s = true) : va_Nw (.isRef (.mirror C)) s := by
  obtain ⟨mi, h⟩ := va_Mi.of (args := args) (s := s) (C := C) h
  obtain ⟨c, k, h1, h2, h3⟩ := h
  show (Cond.isRef (.mirror C)).before #[] s = true
  simp [Cond.before, Cond.holds, Cond.value, Term.eval, h1, h2, h3, Value.isRef]
theorem ws_nst : wl_ck (sk_nest.take 25) [(1, 223), (3, 115), (3, 232), (4, 113), (7, 13), (9, 228), (9, 230), (11, 221), (5, 201), (11, 231), (12, 198), (12, 199), (12, 200), (12, 201), (12, 202), (12, 203), (12, 204), (12, 205), (12, 206), (12, 207), (12, 208), (12, 209), (12, 210), (12, 211), (12, 212)] = true := by decide +kernel
def ws_nao : List String := ["GoalHouse$Program", "GoalHouse$Run", "GoalHouse$Val", "GoalHouse$Proc", "GoalHouse$Node", "java/lang/Object"]
theorem ws_nst2 : wl_ck (ws_nao.map (fun C => Cond.arrayOver (.object C))) [(1, 39), (1, 41), (1, 127), (1, 129), (3, 120), (5, 74)] = true := by decide +kernel
theorem ws_nst3 : wl_ck [.declares ⟨"java/lang/Object", "getClass", "()Ljava/lang/Class;"⟩] [(12, 215)] = true := by decide +kernel
theorem ws_ont : (sk_nest.take 25).all (fun w => w.onTables) = true := by decide +kernel
theorem ws_aon {args : Array Value} {s : State} {n : String} (h : (Cond.arrayOver (.object n)).before args s = true) : va_Nw (.arrayOver (.object n)) s := by
  show (Cond.arrayOver (.object n)).before #[] s = true
  first
  | exact h
  | (simp only [Cond.before, Cond.holds, Cond.value] at h ⊢
     exact h)
theorem ws_mir : ws_sub [.isRef (.mirror "[Ljava/lang/Object;")] ws_L = true := by decide +kernel
theorem ws_N {args : Array Value} {s : State} (hts : ∀ w ∈ lw_tbl, w.before args s = true) (hs : ∀ c ∈ ws_L, c.before args s = true) : ∀ w ∈ sk_nest, va_Nw w s := by
  intro w hw
  have e : sk_nest = sk_nest.take 25 ++ (ws_nao.map (fun C => Cond.arrayOver (.object C)) ++ ([Cond.declares ⟨"java/lang/Object", "getClass", "()Ljava/lang/Class;"⟩] ++ [Cond.isRef (.mirror "[Ljava/lang/Object;")])) := rfl
  rw [e] at hw
  rcases List.mem_append.mp hw with hw | hw
  · exact va_Nw.of (List.all_eq_true.mp ws_ont w hw) (wl_ok hts ws_nst w hw)
  rcases List.mem_append.mp hw with hw | hw
  · have hb := wl_ok hts ws_nst2 w hw
    obtain ⟨C, hC, e2⟩ := List.mem_map.mp hw
    rw [← e2] at hb ⊢
    exact ws_aon hb
  rcases List.mem_append.mp hw with hw | hw
  · have hb := wl_ok hts ws_nst3 w hw
    cases List.mem_singleton.mp hw
    exact va_Nw.of rfl hb
  · cases List.mem_singleton.mp hw
    exact ws_mi (hs _ (ws_sub_mem ws_mir _ (.head _)))
def ws_rk : List Cond := [.arrayOf (.static "GoalHouse" "RANKS" "[I") .int, .eq (.length (.static "GoalHouse" "RANKS" "[I")) (.int 59)] ++ (List.range 59).map (fun j => .eq (.elem (.static "GoalHouse" "RANKS" "[I") (.int (Int32.ofNat j))) (.int (Int32.ofInt (Int.ofNat (sk_RANKS.getD j 0)))))
def ws_pl : List Cond := [.arrayOf (.static "GoalHouse" "PLAIN" "[I") .int, .eq (.length (.static "GoalHouse" "PLAIN" "[I")) (.int 11)] ++ (List.range 11).map (fun j => .eq (.elem (.static "GoalHouse" "PLAIN" "[I") (.int (Int32.ofNat j))) (.int (Int32.ofInt (Int.ofNat (sk_PLAIN.getD j 0)))))
def ws_al : List Cond := [.eq (.static "java/lang/String" "COMPACT_STRINGS" "Z") (.int 1), .isRef (.static "jdk/internal/util/Preconditions" "SIOOBE_FORMATTER" "Ljava/util/function/BiFunction;"), .arrayOf (.static "java/util/ArrayList" "DEFAULTCAPACITY_EMPTY_ELEMENTDATA" "[Ljava/lang/Object;") (.object "java/lang/Object"), .eq (.length (.static "java/util/ArrayList" "DEFAULTCAPACITY_EMPTY_ELEMENTDATA" "[Ljava/lang/Object;")) (.int 0)]
theorem ws_cs : (ws_sub ws_al ws_L && (ws_sub ws_rk ws_L && ws_sub ws_pl ws_L)) = true := by decide +kernel
/-- what stands where -/
def ws_z (z0 z1 z2 b : Nat) (adK adV : Nat → Nat) (i : Nat) : Nat := if i < 100 then (match i with
  | 0 => z0
  | 1 => z1
  | 2 => z2
  | _ => b) else if i % 2 = 0 then adK ((i - 100) / 2) else adV ((i - 101) / 2)
theorem ws_zK {z0 z1 z2 b : Nat} {adK adV : Nat → Nat} (i : Nat) : ws_z z0 z1 z2 b adK adV (100 + 2 * i) = adK i := by
  unfold ws_z
  rw [if_neg (by omega), if_pos (by omega), show (100 + 2 * i - 100) / 2 = i by omega]
theorem ws_zV {z0 z1 z2 b : Nat} {adK adV : Nat → Nat} (i : Nat) : ws_z z0 z1 z2 b adK adV (101 + 2 * i) = adV i := by
  unfold ws_z
  rw [if_neg (by omega), if_neg (by omega), show (101 + 2 * i - 101) / 2 = i by omega]
theorem ws_SR {args : Array Value} {s : State} (b : Nat) (hts : ∀ w ∈ lw_tbl, w.before args s = true) (hs : ∀ c ∈ ws_L, c.before args s = true) : ∃ z : Nat → Nat, z 4 = b ∧ SR z (fun q => s.heap.size ≤ q) s s.heap := by
  have hA : ∀ a : Nat, a < s.heap.size → ¬ (fun q => s.heap.size ≤ q) a := fun a h => Nat.not_le.mpr h
  have k := ws_cs
  rw [Bool.and_eq_true, Bool.and_eq_true] at k
  have ka : ∀ c ∈ ws_al, c.before args s = true := fun c hc => hs c (ws_sub_mem k.1 c hc)
  have kr : ∀ c ∈ ws_rk, c.before args s = true := fun c hc => hs c (ws_sub_mem k.2.1 c hc)
  have kp : ∀ c ∈ ws_pl, c.before args s = true := fun c hc => hs c (ws_sub_mem k.2.2 c hc)
  obtain ⟨adK, adV, hS, hK⟩ := ws_S (A := fun q => s.heap.size ≤ q) hs hA
  obtain ⟨z0, e0, T0⟩ := va_Tof (args := args) (s := s) (tm := .static "java/util/ArrayList" "DEFAULTCAPACITY_EMPTY_ELEMENTDATA" "[Ljava/lang/Object;") (ty := .object "java/lang/Object") (N := 0) (f := fun _ => .null) (A := fun q => s.heap.size ≤ q) (by decide) (ka _ (.tail _ (.tail _ (.head _)))) (va_eqt (ka _ (.tail _ (.tail _ (.tail _ (.head _)))))) (fun j hj => absurd hj (Nat.not_lt_zero j)) hA
  obtain ⟨z1, e1, T1⟩ := va_Tof (args := args) (s := s) (tm := .static "GoalHouse" "RANKS" "[I") (ty := .int) (N := 59) (f := fun j => .int (Int32.ofInt (Int.ofNat (sk_RANKS.getD j 0)))) (A := fun q => s.heap.size ≤ q) (by decide) (kr _ (List.mem_append_left _ (.head _))) (va_eqt (kr _ (List.mem_append_left _ (.tail _ (.head _))))) (fun j hj => va_eqt (kr _ (List.mem_append_right _ (List.mem_map.mpr ⟨j, List.mem_range.mpr hj, rfl⟩)))) hA
  obtain ⟨z2, e2, T2⟩ := va_Tof (args := args) (s := s) (tm := .static "GoalHouse" "PLAIN" "[I") (ty := .int) (N := 11) (f := fun j => .int (Int32.ofInt (Int.ofNat (sk_PLAIN.getD j 0)))) (A := fun q => s.heap.size ≤ q) (by decide) (kp _ (List.mem_append_left _ (.head _))) (va_eqt (kp _ (List.mem_append_left _ (.tail _ (.head _))))) (fun j hj => va_eqt (kp _ (List.mem_append_right _ (List.mem_map.mpr ⟨j, List.mem_range.mpr hj, rfl⟩)))) hA
  have eK : (fun i => ws_z z0 z1 z2 b adK adV (100 + 2 * i)) = adK := funext fun i => ws_zK i
  have eV : (fun i => ws_z z0 z1 z2 b adK adV (101 + 2 * i)) = adV := funext fun i => ws_zV i
  refine ⟨ws_z z0 z1 z2 b adK adV, rfl, va_Zref (hts _ (wl_in (j := 2) (List.mem_of_getElem? (i := 142) (by decide +kernel)))) (hts _ (wl_in (j := 1) (List.mem_of_getElem? (i := 15) (by decide +kernel)))) e0 hA, T0, va_Zof (hts _ (wl_in (j := 1) (List.mem_of_getElem? (i := 235) (by decide +kernel)))) (hts _ (wl_in (j := 1) (List.mem_of_getElem? (i := 5) (by decide +kernel)))) (va_eqi (ka _ (.head _))) hA, va_Zref (hts _ (wl_in (j := 5) (List.mem_of_getElem? (i := 202) (by decide +kernel)))) (hts _ (wl_in (j := 1) (List.mem_of_getElem? (i := 1) (by decide +kernel)))) e1 hA, T1, va_Zref (hts _ (wl_in (j := 11) (List.mem_of_getElem? (i := 232) (by decide +kernel)))) (hts _ (wl_in (j := 1) (List.mem_of_getElem? (i := 1) (by decide +kernel)))) e2 hA, T2, va_Zqof (hts _ (wl_in (j := 2) (List.mem_of_getElem? (i := 11) (by decide +kernel)))) (hts _ (wl_in (j := 1) (List.mem_of_getElem? (i := 7) (by decide +kernel)))) (ka _ (.tail _ (.head _))) hA, ?_, ?_, ws_N hts hs⟩
  · rw [eK, eV]
    exact hS
  · intro q hq
    rw [ws_zK]
    exact ws_R hts hs hK q hq
theorem ws_in : wl_ck (vwCl.map (fun q => Cond.instantiable q.1 q.2.2)) [(2, 50), (3, 239), (2, 130), (8, 87), (7, 238), (1, 43), (5, 82), (2, 124), (3, 231), (3, 114), (7, 100), (7, 196), (1, 134), (1, 49), (1, 31)] = true := by decide +kernel
def ws_ac : List Cond := [.arrayClass .int, .arrayClass .byte, .arrayClass .boolean, .arrayClass .char, .arrayClass .long]
theorem ws_acc : wl_ck ws_ac [(1, 217), (1, 121), (7, 179), (5, 161), (2, 88)] = true := by decide +kernel
def ws_ao : List String := ["GoalHouse$Node", "GoalHouse$Proc", "GoalHouse$Program", "GoalHouse$Run", "GoalHouse$Val", "java/lang/Object"]
theorem ws_aoc : wl_ck (ws_ao.map (fun C => Cond.arrayOver (.object C))) [(3, 120), (1, 129), (1, 39), (1, 41), (1, 127), (5, 74)] = true := by decide +kernel
theorem ws_tyo : sx_tyo.all (fun C => ws_ao.contains C) = true := by decide +kernel
theorem ws_ap {args : Array Value} {s : State} {ty : FieldType} (h : (Cond.arrayClass ty).before args s = true) : ∃ (cA : ClassId) (kA : Class) (comp : ClassId), s.vm.findClass ("[" ++ ty.toString) = some cA ∧ s.vm.classes[cA]? = some kA ∧ kA.kind = .array comp ty := by
  have h9 := Cond.arrayClass_spec h
  first
  | exact h9
  | (obtain ⟨cA, kA, comp, h1, h2, h3⟩ := h9; exact ⟨cA, kA, comp, h1, h2, h3⟩)
  | (obtain ⟨cA, kA, comp, h1, h2, h3, h4⟩ := h9; exact ⟨cA, kA, comp, h1, h2, h3⟩)
theorem ws_tp {args : Array Value} {s : State} {ty : FieldType} (hn : ∀ C, ty ≠ .object C) (h : (Cond.arrayClass ty).before args s = true) : ∃ cA : ClassId, ArrOfT s cA ty ∧ va_RA s cA ty := by
  obtain ⟨cA, kA, comp, h1, h2, h3⟩ := ws_ap h
  refine ⟨cA, fun N z => ⟨fun k h => ?_, kA, h2, comp, h3⟩, ?_⟩
  · cases h
  · cases ty with
    | object C => exact absurd rfl (hn C)
    | _ => exact h1
theorem ws_to {args : Array Value} {s : State} {C : String} (h : (Cond.arrayOver (.object C)).before args s = true) : ∃ cA : ClassId, ArrOfT s cA (.object C) ∧ va_RA s cA (.object C) := by
  obtain ⟨comp, cA, kA, h1, h2, h3, h4, h5⟩ := Cond.arrayOver_spec h
  exact ⟨cA, fun N z => ⟨(fun k h => by cases h), kA, h3, comp, h4⟩, kA, comp, h3, h4, h1, h5⟩
theorem ws_ty {args : Array Value} {s : State} (hts : ∀ w ∈ lw_tbl, w.before args s = true) (k : Nat) : ∃ cA : ClassId, ∀ ty, sx_tyF[k]? = some ty → ArrOfT s cA ty ∧ va_RA s cA ty := by
  have ha := wl_ok hts ws_acc
  have key : ∀ ty, ty ∈ sx_tyF → ∃ cA : ClassId, ArrOfT s cA ty ∧ va_RA s cA ty := by
    intro ty h
    unfold sx_tyF at h
    rcases List.mem_append.mp h with h | h
    · simp only [List.mem_cons, List.not_mem_nil, or_false] at h
      rcases h with rfl | rfl | rfl | rfl | rfl
      · exact ws_tp (fun C h => by cases h) (ha _ (.head _))
      · exact ws_tp (fun C h => by cases h) (ha _ (.tail _ (.head _)))
      · exact ws_tp (fun C h => by cases h) (ha _ (.tail _ (.tail _ (.head _))))
      · exact ws_tp (fun C h => by cases h) (ha _ (.tail _ (.tail _ (.tail _ (.head _)))))
      · exact ws_tp (fun C h => by cases h) (ha _ (.tail _ (.tail _ (.tail _ (.tail _ (.head _))))))
    · obtain ⟨C, hC, rfl⟩ := List.mem_map.mp h
      have h9 := List.all_eq_true.mp ws_tyo C hC
      exact ws_to (wl_ok hts ws_aoc _ (List.mem_map.mpr ⟨C, List.contains_iff_mem.mp h9, rfl⟩))
  cases e : sx_tyF[k]? with
  | none => exact ⟨(default : Nat), fun ty h => by cases h⟩
  | some ty =>
    obtain ⟨cA, h⟩ := key ty (List.mem_of_getElem? e)
    exact ⟨cA, fun ty' h' => by cases h'; exact h⟩
theorem ws_cl {args : Array Value} {s : State} (hts : ∀ w ∈ lw_tbl, w.before args s = true) (k : Nat) : ∃ q9 : ClassId × (Nat → Nat), ∀ q : vw_C, vwCl[k]? = some q → u_Kn s q.1 q.2.1 q.2.2 q9.1 q9.2 := by
  cases e : vwCl[k]? with
  | none => exact ⟨((default : Nat), fun _ => 0), fun q h => by cases h⟩
  | some q =>
    have hi : (Cond.instantiable q.1 q.2.2).before args s = true := wl_ok hts ws_in _ (List.mem_map.mpr ⟨q, List.mem_of_getElem? e, rfl⟩)
    obtain ⟨cC, iS, h⟩ := u_known (wl_all hts) (sx_cl k q e).1 hi
    exact ⟨(cC, iS), fun q' h' => by cases h'; exact h⟩
theorem ws_K {args : Array Value} {s : State} (hts : ∀ w ∈ lw_tbl, w.before args s = true) : ∃ (D : va_G) (cA : Nat → ClassId), va_K D vwCl (sx_tys cA) s := by
  obtain ⟨ad, had⟩ := Classical.axiomOfChoice (ws_cl hts)
  obtain ⟨cA, hcA⟩ := Classical.axiomOfChoice (ws_ty hts)
  refine ⟨(fun c => (ad c).1, fun c => (ad c).2), cA, had, fun k q hk => ?_⟩
  have h : (sx_tysF cA 0 sx_tyF)[k]? = some q := hk
  rw [sx_tysF_at] at h
  cases e : sx_tyF[k]? with
  | none => rw [e] at h; cases h
  | some t =>
    rw [e] at h
    have h : some (cA (0 + k), t) = some q := h
    cases h
    rw [Nat.zero_add]
    exact hcA k t e
