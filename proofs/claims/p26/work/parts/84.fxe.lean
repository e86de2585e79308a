/-! calls and what is done by hand, in small worlds -/
noncomputable def fx_row (M : sx_M) (r : Nat) : Option sx_R := fx_look 10 M.2.2.2.2 r
theorem fx_row_eq (M : sx_M) (r : Nat) : fx_row M r = sx_row M r := fx_look_eq 10 _ _
noncomputable def fx_prep (P : Nat → Option sx_M) (aux : List Nat) : List sx_V → fx_W → Option (sx_M × List sx_V × List sx_V) := match aux with
  | kd :: mj :: n :: ci :: _ => (match P mj with
    | none => fun _ _ => none
    | some M' => bif Nat.beq kd 2 || Nat.beq kd 4 then (fun S _ => match fx_pop n S [] with
        | some q => some (M', q.1, q.2)
        | none => none) else bif Nat.beq kd 9 then (fun _ _ => none) else (fun S w => match fx_pop n S [] with
        | some q => (match q.2 with
          | .inr (.inr (some (.inl a))) :: S' => (match fx_look 9 w a with
            | some (.inl o) => bif Nat.beq o.1 ci || Nat.beq kd 1 || Nat.beq kd 5 then some (M', sx_id a :: q.1, S') else none
            | _ => none)
          | _ => none)
        | none => none))
  | _ => fun _ _ => none
theorem fx_prep_ok {P : Nat → Option sx_M} {aux : List Nat} {S : List sx_V} {w : fx_W} {q : sx_M × List sx_V × List sx_V} (h : fx_prep P aux S w = some q) {w' : sx_W} (hw : fx_le w w') {ins : Instr} (hi : sx_isinv ins = true) (pc len : Nat) (cst : Int) (r nx k n : Nat) (L : List (Nat × sx_V)) : sx_prep P (pc, ins, len, aux, cst) (r, L, S, w', nx, k, n) = some q := by
  unfold fx_prep at h
  split at h
  · rename_i kd mj n9 ci tl
    cases hM' : P mj with
    | none =>
      rw [hM'] at h
      have h : (none : Option (sx_M × List sx_V × List sx_V)) = some q := h
      cases h
    | some M' =>
      rw [hM'] at h
      have h : (bif Nat.beq kd 2 || Nat.beq kd 4 then (fun (S : List sx_V) (_ : fx_W) => match fx_pop n9 S [] with
        | some q => some (M', q.1, q.2)
        | none => none) else bif Nat.beq kd 9 then (fun _ _ => none) else (fun S w => match fx_pop n9 S [] with
        | some q => (match q.2 with
          | .inr (.inr (some (.inl a))) :: S' => (match fx_look 9 w a with
            | some (.inl o) => bif Nat.beq o.1 ci || Nat.beq kd 1 || Nat.beq kd 5 then some (M', sx_id a :: q.1, S') else none
            | _ => none)
          | _ => none)
        | none => none)) S w = some q := h
      unfold sx_prep
      simp only [hi, Bool.not_true, cond_false, hM']
      cases h24 : (Nat.beq kd 2 || Nat.beq kd 4) with
      | true =>
        rw [h24, cond_true] at h
        split at h
        · rename_i q9 hq9
          cases h
          obtain ⟨a1, a2, a3⟩ := fx_pop_ok _ _ _ _ hq9
          rw [List.append_nil] at a2
          have e : (bif Nat.ble n9 S.length then some (M', (S.take n9).reverse, S.drop n9) else none) = some (M', q9.1, q9.2) := by
            rw [Nat.ble_eq_true_of_le a1, cond_true, a2, a3]
          rw [Bool.or_eq_true] at h24
          rcases h24 with h2 | h4
          · cases Nat.eq_of_beq_eq_true h2
            exact e
          · cases Nat.eq_of_beq_eq_true h4
            exact e
        · cases h
      | false =>
        rw [h24, cond_false] at h
        rw [Bool.or_eq_false_iff] at h24
        cases h9 : Nat.beq kd 9 with
        | true => rw [h9, cond_true] at h; cases h
        | false =>
          rw [h9, cond_false] at h
          split at h
          · rename_i q9 hq9
            obtain ⟨a1, a2, a3⟩ := fx_pop_ok _ _ _ _ hq9
            rw [List.append_nil] at a2
            split at h
            · rename_i a S' hS'
              split at h
              · rename_i o ho
                obtain ⟨cj, fs⟩ := o
                have ho := hw _ _ ho
                cases hc : (Nat.beq cj ci || Nat.beq kd 1 || Nat.beq kd 5) with
                | false => simp only [hc, cond_false] at h; cases h
                | true =>
                  simp only [hc, cond_true] at h
                  cases h
                  rw [a3] at hS'
                  split
                  · exact nomatch h24.1
                  · exact nomatch h24.2
                  · exact nomatch h9
                  · simp only [hS', ho, hc, cond_true, a2]
              · cases h
            · cases h
          · cases h
  · cases h
/-- words of one length out of a list of words -/
def fx_mkt (n : Nat) : List Nat → List Nat → Nat → Nat → List (Nat × List Nat)
  | [], _, _, _ => []
  | c :: rest, st, len, id => bif Nat.beq c 32 then (bif Nat.beq len n then (id, st.take n) :: fx_mkt n rest rest 0 (id + 1) else fx_mkt n rest rest 0 (id + 1)) else fx_mkt n rest st (len + 1) id
theorem fx_bm_take (b : Nat → Option (Int × Int)) : ∀ (r t : Nat) (st : List Nat), sx_bm b (st.take r) r t = sx_bm b st r t
  | 0, t, st => by
    cases st <;> rfl
  | r + 1, t, [] => rfl
  | r + 1, t, c :: st => by
    rw [List.take_succ_cons]
    unfold sx_bm
    cases b t with
    | none => rfl
    | some q => simp only [fx_bm_take b r (t + 1) st]
noncomputable def fx_bm (b : Nat → Option (Int × Int)) (st : List Nat) : Nat → Option Bool := List.rec (motive := fun _ => Nat → Option Bool) (fun _ => some true) (fun c _ ih t => match b t with
    | none => none
    | some q => bif sx_le 0 q.1 && sx_le q.2 127 && Nat.blt c 128 then (bif sx_le (q.2 + 1) (Int.ofNat c) || sx_le (Int.ofNat c + 1) q.1 then some false else bif sx_eq q.1 (Int.ofNat c) && sx_eq q.2 (Int.ofNat c) then ih (t + 1) else none) else none) st
theorem fx_bm_eq (b : Nat → Option (Int × Int)) : ∀ (st : List Nat) (t : Nat), fx_bm b st t = sx_bm b st st.length t
  | [], t => rfl
  | c :: st, t => by
    show (match b t with
    | none => none
    | some q => bif sx_le 0 q.1 && sx_le q.2 127 && Nat.blt c 128 then (bif sx_le (q.2 + 1) (Int.ofNat c) || sx_le (Int.ofNat c + 1) q.1 then some false else bif sx_eq q.1 (Int.ofNat c) && sx_eq q.2 (Int.ofNat c) then fx_bm b st (t + 1) else none) else none) = sx_bm b (c :: st) (st.length + 1) t
    rw [fx_bm_eq b st (t + 1)]
    rfl
noncomputable def fx_wl (b : Nat → Option (Int × Int)) (l : List (Nat × List Nat)) : Option Int := List.rec (motive := fun _ => Option Int) (some (-1)) (fun q _ ih => match fx_bm b q.2 0 with
    | none => none
    | some true => some (Int.ofNat q.1)
    | some false => ih) l
theorem fx_wl_ok (b : Nat → Option (Int × Int)) (n : Nat) : ∀ (N st : List Nat) (len id : Nat), N.all (fun c => Nat.blt c 128) = true → (fx_mkt n N st len id).all (fun q => Nat.beq q.2.length n) = true → fx_wl b (fx_mkt n N st len id) = sx_wk b n N st len id
  | [], st, len, id, _, _ => rfl
  | c :: rest, st, len, id, h, hl => by
    rw [List.all_cons, Bool.and_eq_true] at h
    unfold fx_mkt at hl ⊢
    unfold sx_wk
    cases hc : Nat.beq c 32 with
    | false =>
      simp only [hc, cond_false, h.1, cond_true] at hl ⊢
      exact fx_wl_ok b n rest st (len + 1) id h.2 hl
    | true =>
      simp only [hc, cond_true] at hl ⊢
      cases hn : Nat.beq len n with
      | false =>
        simp only [hn, cond_false] at hl ⊢
        exact fx_wl_ok b n rest rest 0 (id + 1) h.2 hl
      | true =>
        simp only [hn, cond_true] at hl ⊢
        rw [List.all_cons, Bool.and_eq_true] at hl
        have e : fx_bm b (st.take n) 0 = sx_bm b st n 0 := by
          rw [fx_bm_eq, Nat.eq_of_beq_eq_true hl.1, fx_bm_take]
        show (match fx_bm b (st.take n) 0 with
          | none => none
          | some true => some (Int.ofNat id)
          | some false => fx_wl b (fx_mkt n rest rest 0 (id + 1))) = _
        rw [e, fx_wl_ok b n rest rest 0 (id + 1) h.2 hl.2]
        rfl
noncomputable def fx_by (B : sx_Bs) (u : List (Nat × sx_V)) (f t : Nat) : Option (Int × Int) := match fx_lk u (f + t) with
  | some (.inl v) => sx_rn B v
  | _ => none
theorem fx_by_eq (B : sx_Bs) (u : List (Nat × sx_V)) (f : Nat) : fx_by B u f = sx_by B u f := by
  funext t
  unfold fx_by sx_by
  rw [fx_lk_eq]
  rfl
def fx_tW (n : Nat) : List (Nat × List Nat) := match n with
  | 2 => [(1, [98, 121]), (5, [100, 111]), (11, [105, 102]), (16, [111, 102]), (24, [116, 111])]
  | 3 => [(7, [101, 110, 100]), (15, [110, 111, 116])]
  | 4 => [(2, [99, 97, 115, 101]), (6, [101, 108, 115, 101]), (9, [102, 97, 105, 108]), (14, [110, 101, 120, 116]), (23, [116, 104, 101, 110])]
  | 5 => [(0, [98, 114, 101, 97, 107]), (8, [101, 118, 101, 114, 121]), (13, [108, 111, 99, 97, 108]), (25, [117, 110, 116, 105, 108]), (26, [119, 104, 105, 108, 101])]
  | 6 => [(3, [99, 114, 101, 97, 116, 101]), (10, [103, 108, 111, 98, 97, 108]), (18, [114, 101, 99, 111, 114, 100]), (19, [114, 101, 112, 101, 97, 116]), (20, [114, 101, 116, 117, 114, 110]), (21, [115, 116, 97, 116, 105, 99])]
  | 7 => [(4, [100, 101, 102, 97, 117, 108, 116]), (12, [105, 110, 105, 116, 105, 97, 108]), (22, [115, 117, 115, 112, 101, 110, 100])]
  | 9 => [(17, [112, 114, 111, 99, 101, 100, 117, 114, 101])]
  | _ => []
theorem fx_tW_ok : ∀ n : Fin 21, fx_mkt n.val sk_num[12] sk_num[12] 0 0 = fx_tW n.val := by decide +kernel
theorem fx_tW_al : (sk_num[12]).all (fun c => Nat.blt c 128) = true := by decide +kernel
theorem fx_tW_ln : ∀ n : Fin 21, (fx_tW n.val).all (fun q => Nat.beq q.2.length n.val) = true := by decide +kernel
def fx_tS (n : Nat) : List (Nat × List Nat) := match n with
  | 1 => [(0, [40]), (1, [41]), (2, [91]), (3, [93]), (4, [123]), (5, [125]), (6, [44]), (7, [59]), (8, [46]), (9, [58]), (12, [38]), (13, [63]), (18, [124]), (19, [60]), (21, [61]), (23, [62]), (35, [43]), (36, [45]), (39, [42]), (40, [47]), (41, [37]), (43, [94]), (44, [92]), (45, [33]), (46, [64]), (47, [126])]
  | 2 => [(10, [43, 58]), (11, [45, 58]), (14, [58, 61]), (15, [60, 45]), (20, [60, 61]), (22, [62, 61]), (24, [126, 61]), (25, [60, 60]), (27, [61, 61]), (29, [62, 62]), (33, [124, 124]), (37, [43, 43]), (38, [45, 45]), (42, [42, 42])]
  | 3 => [(16, [58, 61, 58]), (17, [60, 45, 62]), (26, [60, 60, 61]), (28, [62, 62, 61]), (30, [126, 61, 61]), (31, [61, 61, 61]), (34, [124, 124, 124]), (48, [43, 58, 61]), (49, [45, 58, 61]), (50, [42, 58, 61]), (51, [47, 58, 61]), (52, [37, 58, 61]), (53, [94, 58, 61])]
  | 4 => [(32, [126, 61, 61, 61]), (54, [43, 43, 58, 61]), (55, [45, 45, 58, 61]), (56, [42, 42, 58, 61]), (57, [124, 124, 58, 61])]
  | 5 => [(58, [124, 124, 124, 58, 61])]
  | _ => []
theorem fx_tS_ok : ∀ n : Fin 21, fx_mkt n.val sk_num[14] sk_num[14] 0 0 = fx_tS n.val := by decide +kernel
theorem fx_tS_al : (sk_num[14]).all (fun c => Nat.blt c 128) = true := by decide +kernel
theorem fx_tS_ln : ∀ n : Fin 21, (fx_tS n.val).all (fun q => Nat.beq q.2.length n.val) = true := by decide +kernel
noncomputable def fx_tab (q : Nat) : Option (Nat → List (Nat × List Nat)) := match q with
  | 124 => some fx_tW
  | 128 => some fx_tS
  | _ => none
theorem fx_tab_ok {q : Nat} {T : Nat → List (Nat × List Nat)} (h : fx_tab q = some T) (b : Nat → Option (Int × Int)) {n : Nat} (hn : n < 21) : ∃ N, sx_wlist q = some N ∧ sx_wk b n N N 0 0 = fx_wl b (T n) := by
  unfold fx_tab at h
  split at h
  · cases h
    refine ⟨sk_num[12], rfl, ?_⟩
    have e := fx_tW_ok ⟨n, hn⟩
    have e : fx_mkt n sk_num[12] sk_num[12] 0 0 = fx_tW n := e
    rw [← e, fx_wl_ok b n _ _ 0 0 fx_tW_al (by rw [e]; exact fx_tW_ln ⟨n, hn⟩)]
  · cases h
    refine ⟨sk_num[14], rfl, ?_⟩
    have e := fx_tS_ok ⟨n, hn⟩
    have e : fx_mkt n sk_num[14] sk_num[14] 0 0 = fx_tS n := e
    rw [← e, fx_wl_ok b n _ _ 0 0 fx_tS_al (by rw [e]; exact fx_tS_ln ⟨n, hn⟩)]
  · cases h
