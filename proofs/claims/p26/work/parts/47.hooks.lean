/-! contracts by other hands in this reader's worlds -/
theorem sx_roomM {s : State} {pl : Platform} {r r' : Room} (h : s.hasRoom pl r' = true) (h1 : r.frames ≤ r'.frames) (h2 : r.cells ≤ r'.cells) (h3 : r.slots ≤ r'.slots) (h4 : r.locals ≤ r'.locals) : s.hasRoom pl r = true := by
  simp only [State.hasRoom, Bool.and_eq_true, decide_eq_true_eq] at h ⊢
  obtain ⟨⟨⟨⟨a, b1, b2, b3, b4, b5⟩, c⟩, d⟩, e⟩ := h
  exact ⟨⟨⟨⟨by omega, by omega, by omega, by omega, by omega, b5⟩, by omega⟩, by omega⟩, e⟩
theorem Met.big {l : Launch} {y : MethodName} {ws ws' : List Cond} {rm rm' : Room} {Pc Pc' : Array Value → State → Prop} {Qc Qc' : Array Value → State → Outcome → State → Prop} {mc ms : Nat} {free free' : Addr → Prop} (h : Met l y ws rm Pc Qc mc ms free) (hw : ∀ w ∈ ws, w ∈ ws') (h1 : rm.frames ≤ rm'.frames) (h2 : rm.cells ≤ rm'.cells) (h3 : rm.slots ≤ rm'.slots) (h4 : rm.locals ≤ rm'.locals) (hP : ∀ a s, Pc' a s → Pc a s) (hQ : ∀ a s o t, Pc' a s → Qc a s o t → Qc' a s o t) (hf : ∀ q, free q → free' q) : Met l y ws' rm' Pc' Qc' mc ms free' := by
  intro p e ha hc hk s m args below hfr happ hPc ht
  obtain ⟨x1, x2, x3, x4, x5, x6, x7, x8⟩ := (Spec.appliesLoose_iff hfr).mp happ
  have happ2 : (headSpec ws rm).appliesLoose y e.platform s = true := (Spec.appliesLoose_iff hfr).mpr ⟨x1, x2, x3, x4, x5, x6, sx_roomM x7 h1 h2 h3 h4, atoms_intro (fun w hw9 => atoms_spec x8 w (hw w hw9))⟩
  obtain ⟨n, o, g1, g2, g3, gQ, L, gF, gL⟩ := h p e ha hc hk s m args below hfr happ2 (hP _ _ hPc) ht
  exact ⟨n, o, g1, g2, g3, hQ _ _ _ _ hPc gQ, L, gF, fun q hq => hf _ (gL q hq)⟩
theorem sx_keepW {D : va_G} {wls wc : va_W} {H H1 : Heap} {sz : Nat} (hsz : H.size = sz) (hP : va_P D vwCl wls H) (hD : va_D (fun _ => True) wls) (hsub : ∀ (k : Nat) (x : Nat × va_E), wc[k]? = some x → ∃ j : Nat, wls[j]? = some x) (hP1 : va_P D vwCl wc H1) (hk : ∀ q : Nat, q < H.size → ¬ va_A wc sz q → H1[q]? = H[q]?) : va_P D vwCl wls H1 := by
  intro k q hq
  by_cases hc : ∃ (j : Nat) (e : va_E), wc[j]? = some (q.1, e)
  · obtain ⟨j, e, hj⟩ := hc
    obtain ⟨i, hi⟩ := hsub j _ hj
    have := hD.1 k i q (q.1, e) hq hi rfl
    subst this
    have e9 : q = (q.1, e) := Option.some.inj (hq.symm.trans hi)
    have h9 := hP1 j _ hj
    rw [← e9] at h9
    exact h9
  · have hlt := (hP k q hq).lt
    refine (hP k q hq).kept (hk q.1 hlt (fun h => ?_))
    rcases h with ⟨j, e, hj⟩ | h
    · exact hc ⟨j, e, hj⟩
    · omega
theorem sx_posIn {ws : List Cond} {ts : List Nat} (h : ws.map some = ts.map (fun t => sx_w sx_tbs t)) : ∀ w ∈ ws, w ∈ wsL_law := fun w hw => by
  have h9 : some w ∈ ws.map some := List.mem_map.mpr ⟨w, hw, rfl⟩
  rw [h] at h9
  obtain ⟨t, -, ht⟩ := List.mem_map.mp h9
  exact sx_w_in sx_tb_ok ht
theorem sx_J00In : ∀ w ∈ wsJ00, w ∈ wsL_law := fun w hw => by
  rw [sx_tb_eq]
  exact List.mem_append_left _ (List.mem_append_left _ (List.mem_append_left _ (List.mem_append_left _ (List.mem_append_left _ (List.mem_append_left _ (List.mem_append_left _ (List.mem_append_left _ (List.mem_append_left _ (List.mem_append_left _ (List.mem_append_right _ hw))))))))))
theorem wi_ws : ∀ w ∈ wsX12_wordIn, w ∈ Cond.code yX12_wordIn cX12_wordIn 7 (some .int) :: wsL_law := fun w hw => by
  rcases List.mem_cons.mp hw with rfl | hw
  · exact List.mem_cons_self
  · refine List.mem_cons_of_mem _ ?_
    rcases List.mem_append.mp hw with hw | hw
    · rcases List.mem_append.mp hw with hw | hw
      · exact sx_posIn (ts := [118, 119, 128, 129, 130, 131, 132, 133, 134, 135, 136, 137, 138, 139, 140, 141, 142, 143, 144, 145, 146, 147, 148, 149]) rfl w hw
      · rcases List.mem_append.mp hw with hw | hw
        · exact sx_posIn (ts := [150, 151, 160, 161, 162, 163, 164, 165, 166, 167, 168, 169, 170, 171, 172, 173, 174, 175, 176, 177, 178, 179, 180, 181]) rfl w hw
        · exact sx_posIn (ts := [182, 548, 549, 2, 550]) rfl w hw
    · exact sx_J00In w hw
theorem wo_ws : ∀ w ∈ wsX12_wordOf, w ∈ Cond.code yX12_wordOf cX12_wordOf 5 (some (.object "java/lang/String")) :: wsL_law := fun w hw => by
  rcases List.mem_cons.mp hw with rfl | hw
  · exact List.mem_cons_self
  · refine List.mem_cons_of_mem _ ?_
    rcases List.mem_append.mp hw with hw | hw
    · rcases List.mem_append.mp hw with hw | hw
      · exact sx_posIn (ts := [118, 119, 128, 129, 130, 131, 132, 133, 134, 135, 136, 137, 138, 139, 140, 141, 142, 143, 144, 145, 146, 147, 148, 149]) rfl w hw
      · rcases List.mem_append.mp hw with hw | hw
        · exact sx_posIn (ts := [150, 151, 160, 161, 162, 163, 164, 165, 166, 167, 168, 169, 170, 171, 172, 173, 174, 175, 176, 177, 178, 179, 180, 181]) rfl w hw
        · rcases List.mem_append.mp hw with hw | hw
          · exact sx_posIn (ts := [182, 183, 192, 193, 194, 195, 196, 197, 198, 199, 200, 201, 202, 203, 204, 205, 206, 207, 208, 209, 210, 211, 212, 213]) rfl w hw
          · rcases List.mem_append.mp hw with hw | hw
            · exact sx_posIn (ts := [214, 215, 224, 225, 226, 227, 15, 228, 229, 230, 231, 232, 233, 234, 235, 236, 237, 238, 239, 240, 241, 242, 13, 14]) rfl w hw
            · rcases List.mem_append.mp hw with hw | hw
              · exact sx_posIn (ts := [243, 244, 245, 246, 247, 256, 257, 258, 259, 260, 261, 262, 263, 264, 265, 266, 267, 268, 269, 270, 271, 272, 273, 274]) rfl w hw
              · exact sx_posIn (ts := [275, 276, 277, 278, 279]) rfl w hw
    · exact sx_J00In w hw
abbrev wi_wc (cA : Nat → ClassId) (h : Nat) (f : Nat → Int32) : va_W := [(h, .inl (cA 1, 8000, .inl f))]
theorem wi_big {l : Launch} {D : va_G} {cA : Nat → ClassId} {z : Nat → Nat} {wls : va_W} {sz q0 h zq k n : Nat} {f : Nat → Int32} {L : List Int32}
    (hM : Met l yX12_wordIn wsX12_wordIn ({ frames := 5, cells := 0, slots := 0, locals := 110 }) (va_Pc [.ref zq, .ref h, .int (nI k), .int (nI n)] (fun U => U.heap.size = sz ∧ va_P D vwCl (wi_wc cA h f) U.heap ∧ va_K D vwCl [(cA 1, .byte)] U ∧ va_D (fun _ => True) (wi_wc cA h f) ∧ SR z (va_A (wi_wc cA h f) sz) U U.heap)) (va_Qi (fun (r : Int32) (_ : Unit) => r = wl L f k n) (fun (u : Unit) t => match u with | () => va_P D vwCl (wi_wc cA h f) t.heap ∧ va_K D vwCl [(cA 1, .byte)] t ∧ va_D (va_A (wi_wc cA h f) sz) (wi_wc cA h f)) (va_A (wi_wc cA h f) sz)) 0 0 (va_A (wi_wc cA h f) sz))
    (h0 : wls[q0]? = some (h, .inl (cA 1, 8000, .inl f))) {fr lo : Nat} (hfr : 5 ≤ fr) (hlo : 110 ≤ lo) :
    Met l yX12_wordIn (Cond.code yX12_wordIn cX12_wordIn 7 (some .int) :: wsL_law) ({ frames := fr, cells := 0, slots := 0, locals := lo }) (va_Pc [.ref zq, .ref h, .int (nI k), .int (nI n)] (sx_Pre D cA z wls sz)) (sx_Q (fun (v : Option Value) (_ : Unit) => v = some (.int (wl L f k n))) (fun _ t => va_P D vwCl wls t.heap ∧ va_D (va_A wls sz) wls) (va_A wls sz)) 0 0 (va_A wls sz) := by
  have hin : ∀ q, va_A (wi_wc cA h f) sz q → va_A wls sz q := fun q hq => by
    rcases hq with ⟨j, e, hj⟩ | hq
    · cases j with
      | zero => cases hj; exact Or.inl ⟨q0, _, h0⟩
      | succ j => cases hj
    · exact Or.inr hq
  have hsub : ∀ (k : Nat) (x : Nat × va_E), (wi_wc cA h f)[k]? = some x → ∃ j : Nat, wls[j]? = some x := fun k x hx => by
    cases k with
    | zero => cases hx; exact ⟨q0, h0⟩
    | succ j => cases hx
  refine hM.big wi_ws hfr (Nat.le_refl _) (Nat.le_refl _) hlo (fun a s hp => ?_) (fun a s o t hp hq => ?_) hin
  · obtain ⟨ha, hsz, hP, hK, hD, hZ⟩ := hp
    refine ⟨ha, hsz, fun k q hq => ?_, hK.sub [1] rfl, ⟨fun i j p q hi hj _ => ?_, fun _ _ _ => trivial⟩, SR.narrow hZ hin⟩
    · obtain ⟨j, hj⟩ := hsub k q hq
      exact hP j q hj
    · cases i with
      | zero => cases j with
        | zero => rfl
        | succ j => cases hj
      | succ i => cases hi
  · obtain ⟨ha, hsz, hP, hK, hD, hZ⟩ := hp
    obtain ⟨⟨r, u, ho, hr, hB⟩, hF⟩ := hq
    exact ⟨⟨some (.int r), (), ho, by rw [hr], sx_keepW hsz hP hD hsub hB.1 hF.2, hD.self⟩, ⟨hF.1, fun q h1 h2 => hF.2 q h1 (fun h3 => h2 (hin q h3))⟩⟩
theorem wo_big {l : Launch} {D : va_G} {cA : Nat → ClassId} {z : Nat → Nat} {wls : va_W} {sz zq k : Nat}
    (hM : Met l yX12_wordOf wsX12_wordOf ({ frames := 5, cells := 2, slots := 264, locals := 300 }) (va_Pc [.ref zq, .int (nI k)] (fun U => U.heap.size = sz ∧ va_P D vwCl [] U.heap ∧ va_K D vwCl [] U ∧ va_D (fun _ => True) [] ∧ SR z (va_A [] sz) U U.heap)) (va_Qr (fun (_ : Unit) => True) (fun (u : Unit) (ra0 : Nat) t => match u with | () => va_P D vwCl [] t.heap ∧ va_K D vwCl [] t ∧ va_D (va_A [] sz) []) (va_A [] sz)) 2 264 (va_A [] sz))
    {fr lo : Nat} (hfr : 5 ≤ fr) (hlo : 300 ≤ lo) :
    Met l yX12_wordOf (Cond.code yX12_wordOf cX12_wordOf 5 (some (.object "java/lang/String")) :: wsL_law) ({ frames := fr, cells := 2, slots := 264, locals := lo }) (va_Pc [.ref zq, .int (nI k)] (sx_Pre D cA z wls sz)) (sx_Q (fun (v : Option Value) (u : Nat) => v = some (.ref u)) (fun _ t => va_P D vwCl wls t.heap ∧ va_D (va_A wls sz) wls) (va_A wls sz)) 2 264 (va_A wls sz) := by
  have hin : ∀ q, va_A [] sz q → va_A wls sz q := fun q hq => by
    rcases hq with ⟨j, e, hj⟩ | hq
    · cases hj
    · exact Or.inr hq
  have hsub : ∀ (k : Nat) (x : Nat × va_E), ([] : va_W)[k]? = some x → ∃ j : Nat, wls[j]? = some x := fun k x hx => by cases hx
  refine hM.big wo_ws hfr (Nat.le_refl _) (Nat.le_refl _) hlo (fun a s hp => ?_) (fun a s o t hp hq => ?_) hin
  · obtain ⟨ha, hsz, hP, hK, hD, hZ⟩ := hp
    exact ⟨ha, hsz, (fun k q hq => by cases hq), hK.sub [] rfl, ⟨fun i j p q hi hj _ => (by cases hi), fun _ _ _ => trivial⟩, SR.narrow hZ hin⟩
  · obtain ⟨ha, hsz, hP, hK, hD, hZ⟩ := hp
    obtain ⟨⟨u, r, ho, hr, hB⟩, hF⟩ := hq
    exact ⟨⟨some (.ref r), r, ho, rfl, sx_keepW hsz hP hD hsub hB.1 hF.2, hD.self⟩, ⟨hF.1, fun q h1 h2 => hF.2 q h1 (fun h3 => h2 (hin q h3))⟩⟩
/-! which word it is, as far as the bytes are known -/
def sx_bm (b : Nat → Option (Int × Int)) : List Nat → Nat → Nat → Option Bool
  | _, 0, _ => some true
  | [], _ + 1, _ => none
  | c :: st, r + 1, t => (match b t with
    | none => none
    | some q => bif sx_le 0 q.1 && sx_le q.2 127 && Nat.blt c 128 then (bif sx_le (q.2 + 1) (Int.ofNat c) || sx_le (Int.ofNat c + 1) q.1 then some false else bif sx_eq q.1 (Int.ofNat c) && sx_eq q.2 (Int.ofNat c) then sx_bm b st r (t + 1) else none) else none)
def sx_wk (b : Nat → Option (Int × Int)) (n : Nat) : List Nat → List Nat → Nat → Nat → Option Int
  | [], _, _, _ => some (-1)
  | c :: rest, st, len, id => bif Nat.beq c 32 then (bif Nat.beq len n then (match sx_bm b st n 0 with
      | none => none
      | some true => some (Int.ofNat id)
      | some false => sx_wk b n rest rest 0 (id + 1)) else sx_wk b n rest rest 0 (id + 1)) else bif Nat.blt c 128 then sx_wk b n rest st (len + 1) id else none
theorem sx_and255 : ∀ k : Nat, k < 128 → Int32.ofInt (Int.ofNat k) &&& 255 = Int32.ofInt (Int.ofNat k) := by decide +kernel
theorem sx_ofInj : ∀ {a b : Int}, 0 ≤ a → a ≤ 127 → 0 ≤ b → b ≤ 127 → Int32.ofInt a = Int32.ofInt b → a = b := fun {a b} h1 h2 h3 h4 e => by
  have e9 := congrArg Int32.toInt e
  rw [Int32.toInt_ofInt_of_le (by omega) (by omega), Int32.toInt_ofInt_of_le (by omega) (by omega)] at e9
  exact e9
theorem sx_bm_ok {b : Nat → Option (Int × Int)} {f : Nat → Int32} {fr : Nat} (hb : ∀ t q, b t = some q → ∃ i : Int, q.1 ≤ i ∧ i ≤ q.2 ∧ f (fr + t) = Int32.ofInt i) : ∀ {st : List Nat} {r t : Nat} {v : Bool}, sx_bm b st r t = some v → (v = true → ∀ j, j < r → ∃ c, st[j]? = some c ∧ Int32.ofInt (Int.ofNat c) = f (fr + (t + j)) &&& 255) ∧ (v = false → ∃ j, j < r ∧ ∃ c, st[j]? = some c ∧ ¬ Int32.ofInt (Int.ofNat c) = f (fr + (t + j)) &&& 255)
  | st, 0, t, v, h => by
    have h : some true = some v := by cases st <;> exact h
    cases h
    exact ⟨fun _ j hj => absurd hj (Nat.not_lt_zero j), fun q => nomatch q⟩
  | [], r + 1, t, v, h => by cases h
  | c :: st, r + 1, t, v, h => by
    unfold sx_bm at h
    split at h
    · cases h
    · rename_i q hq
      obtain ⟨i, i1, i2, i3⟩ := hb t q hq
      cases h1 : (sx_le 0 q.1 && sx_le q.2 127 && Nat.blt c 128) with
      | false => rw [h1] at h; cases h
      | true =>
        rw [h1] at h
        rw [Bool.and_eq_true, Bool.and_eq_true, sx_le_iff, sx_le_iff] at h1
        obtain ⟨⟨a1, a2⟩, a3⟩ := h1
        have a3 : c < 128 := Nat.le_of_ble_eq_true a3
        obtain ⟨k, rfl⟩ : ∃ k : Nat, i = Int.ofNat k := ⟨i.toNat, by show i = ((i.toNat : Nat) : Int); omega⟩
        have hk : k < 128 := by have : (Int.ofNat k : Int) ≤ 127 := by omega
                                have h9 : ((k : Nat) : Int) ≤ 127 := this
                                omega
        have e255 : f (fr + (t + 0)) &&& 255 = Int32.ofInt (Int.ofNat k) := by rw [Nat.add_zero, i3]; exact sx_and255 k hk
        have i1 : q.1 ≤ ((k : Nat) : Int) := i1
        have i2 : ((k : Nat) : Int) ≤ q.2 := i2
        cases h2 : (sx_le (q.2 + 1) (Int.ofNat c) || sx_le (Int.ofNat c + 1) q.1) with
        | true =>
          rw [h2] at h
          cases h
          refine ⟨fun q => (nomatch q), fun _ => ⟨0, by omega, c, rfl, ?_⟩⟩
          rw [e255]
          intro e
          have e9 := sx_ofInj (a := Int.ofNat c) (b := Int.ofNat k) (by show (0 : Int) ≤ ((c : Nat) : Int); omega) (by show ((c : Nat) : Int) ≤ 127; omega) (by show (0 : Int) ≤ ((k : Nat) : Int); omega) (by show ((k : Nat) : Int) ≤ 127; omega) e
          have e9 : ((c : Nat) : Int) = ((k : Nat) : Int) := e9
          rw [Bool.or_eq_true, sx_le_iff, sx_le_iff] at h2
          have h2 : q.2 + 1 ≤ ((c : Nat) : Int) ∨ ((c : Nat) : Int) + 1 ≤ q.1 := h2
          omega
        | false =>
          rw [h2] at h
          cases h3 : (sx_eq q.1 (Int.ofNat c) && sx_eq q.2 (Int.ofNat c)) with
          | false => simp only [h3, cond_false] at h; cases h
          | true =>
            simp only [h3, cond_false, cond_true] at h
            rw [Bool.and_eq_true, sx_eq_iff, sx_eq_iff] at h3
            have b1 : q.1 = ((c : Nat) : Int) := h3.1
            have b2 : q.2 = ((c : Nat) : Int) := h3.2
            have ck : c = k := by omega
            obtain ⟨r1, r2⟩ := sx_bm_ok hb h
            refine ⟨fun hv j hj => ?_, fun hv => ?_⟩
            · cases j with
              | zero => exact ⟨c, rfl, by rw [e255, ck]⟩
              | succ j =>
                obtain ⟨c', g1, g2⟩ := r1 hv j (by omega)
                exact ⟨c', g1, by rw [g2, show t + (j + 1) = t + 1 + j by omega]⟩
            · obtain ⟨j, g0, c', g1, g2⟩ := r2 hv
              exact ⟨j + 1, by omega, c', g1, by rw [show t + (j + 1) = t + 1 + j by omega]; exact g2⟩
theorem sx_wk_ok {b : Nat → Option (Int × Int)} {f : Nat → Int32} {fr n : Nat} (hb : ∀ t q, b t = some q → ∃ i : Int, q.1 ≤ i ∧ i ≤ q.2 ∧ f (fr + t) = Int32.ofInt i) {N : List Nat} {L : List Int32} (hL : L = N.map (fun c => Int32.ofInt (Int.ofNat c))) : ∀ {rest st : List Nat} {len id i s : Nat} {r : Int}, sx_wk b n rest st len id = some r → N.drop i = rest → N.drop s = st → s + len = i → wlk L f fr n rest.length i id s = Int32.ofInt r
  | [], st, len, id, i, s, r, h, h1, h2, h3 => by
    cases h
    rfl
  | c :: rest, st, len, id, i, s, r, h, h1, h2, h3 => by
    have hc : N[i]? = some c := by
      have := congrArg (fun l : List Nat => l[0]?) h1
      rw [List.getElem?_drop, Nat.add_zero] at this
      exact this
    have hLi : L.getD i 0 = Int32.ofInt (Int.ofNat c) := by
      rw [hL, List.getD_eq_getElem?_getD, List.getElem?_map, hc]
      rfl
    have hr1 : N.drop (i + 1) = rest := by
      rw [← List.drop_drop, h1]
      rfl
    unfold sx_wk at h
    show wlk L f fr n (rest.length + 1) i id s = Int32.ofInt r
    unfold wlk
    cases hc32 : Nat.beq c 32 with
    | true =>
      rw [hc32] at h
      have e32 := Nat.eq_of_beq_eq_true hc32
      subst e32
      rw [if_pos (hLi.trans (by decide))]
      have his : i - s = len := by omega
      cases hn : Nat.beq len n with
      | false =>
        simp only [hn, cond_true, cond_false] at h
        have hne := Nat.ne_of_beq_eq_false hn
        rw [if_neg (fun q => hne (by rw [← his]; exact q.1))]
        exact sx_wk_ok hb hL h hr1 hr1 (by omega)
      | true =>
        simp only [hn, cond_true] at h
        have hln := Nat.eq_of_beq_eq_true hn
        cases hm : sx_bm b st n 0 with
        | none => rw [hm] at h; cases h
        | some v =>
          rw [hm] at h
          obtain ⟨g1, g2⟩ := sx_bm_ok hb hm
          have at9 : ∀ (j c' : Nat), st[j]? = some c' → L.getD (s + j) 0 = Int32.ofInt (Int.ofNat c') := fun j c' hj => by
            rw [← h2, List.getElem?_drop] at hj
            rw [hL, List.getD_eq_getElem?_getD, List.getElem?_map, hj]
            rfl
          cases v with
          | true =>
            cases h
            rw [if_pos ⟨his.trans hln, by
              unfold sbI
              rw [if_pos (fun t ht => by
                obtain ⟨c', k1, k2⟩ := g1 rfl t ht
                rw [at9 t c' k1, k2, Nat.zero_add])]⟩]
            exact (Int32.ofInt_eq_ofNat (n := id)).symm
          | false =>
            have h : sx_wk b n rest rest 0 (id + 1) = some r := h
            rw [if_neg (fun q => by
              obtain ⟨j, j1, c', k1, k2⟩ := g2 rfl
              have q2 := q.2
              unfold sbI at q2
              by_cases hall : ∀ t, t < n → L.getD (s + t) 0 = f (fr + t) &&& 255
              · have := hall j j1
                rw [at9 j c' k1] at this
                rw [Nat.zero_add] at k2
                exact k2 this
              · rw [if_neg hall] at q2
                exact absurd q2 (by decide))]
            exact sx_wk_ok hb hL h hr1 hr1 (by omega)
    | false =>
      rw [hc32] at h
      cases hlt : Nat.blt c 128 with
      | false => simp only [hlt, cond_false] at h; cases h
      | true =>
        simp only [hlt, cond_false, cond_true] at h
        have hlt : c < 128 := Nat.le_of_ble_eq_true hlt
        rw [if_neg (fun q => by
          rw [hLi] at q
          have := sx_ofInj (a := Int.ofNat c) (b := 32) (by show (0 : Int) ≤ ((c : Nat) : Int); omega) (by show ((c : Nat) : Int) ≤ 127; omega) (by decide) (by decide) (q.trans (by decide))
          have this : ((c : Nat) : Int) = 32 := this
          exact Nat.ne_of_beq_eq_false hc32 (by omega))]
        exact sx_wk_ok hb hL h hr1 h2 (by omega)
