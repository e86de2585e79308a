section SXB
variable {p : Program} {l : Launch} {e : Env} {R : Room} {s : State} {m : MethodId} {args : Array Value} {below : List Frame} {meth : Method} {c : Code} {Q : State → Prop}
variable {D : va_G} {cA : Nat → ClassId} {z : Nat → Nat} {σ : Nat → Int} {B : sx_Bs} {Fr : va_W} {A : Nat → Prop} {tbs : List (List Cond)} {tb : List Cond} {own mname : String} {cc : ByteArray} {nL pc cells slots : Nat}
variable {ρ : Nat → Option Nat} {L L' : List (Nat × sx_V)} {S S' : List sx_V} {w w' : sx_W} {nx nx' dc ds : Nat}
theorem sx_RF.inv {r : sx_F} {o : Option Nat} (h : sx_RF ρ z r o) : (r = none → o = none) := fun e => by subst e; exact h
theorem sx_asq_ok (C : sx_CX p s m args meth c D cA z σ B A tb own mname cc nL) (hdg : decode cc pc = .ok (.aastore, 1))
    (h : sx_asq L S w nx = some (L', S', w', nx', dc, ds)) (K : sx_KM p l e R s m args below meth c Q D cA z σ Fr A nL (pc + 1) (cells + dc) (slots + ds) ρ L' S' w' nx') : sx_KM p l e R s m args below meth c Q D cA z σ Fr A nL pc cells slots ρ L S w nx := by
  intro wl H locs hI hS ls lv st hl hL hSt
  obtain ⟨hx, hb, hml, hts, hown, hK, hZ, hB, hA, hn⟩ := C
  unfold sx_asq at h
  split at h
  · rename_i v i a S0
    split at h
    · rename_i t n zr u ha
      cases hq : (Nat.ble 5 t && Nat.blt t 13 && sx_qok t w v) with
      | false => simp only [hq] at h; cases h
      | true =>
        simp only [hq, cond_true] at h
        rw [Bool.and_eq_true, Bool.and_eq_true] at hq
        have t5 : 5 ≤ t := Nat.le_of_ble_eq_true hq.1.1
        have t13 : t < 13 := Nat.le_of_ble_eq_true hq.1.2
        have hqk := hq.2
        obtain ⟨Cn, hCn⟩ := sx_tyob t5 t13
        split at h
        · rename_i k hk
          cases h
          obtain ⟨ov, r, rfl, hv, hSt9⟩ := hSt.ref
          replace hSt := hSt9; clear hSt9
          obtain ⟨x, r, rfl, hx9, hSt9⟩ := hSt.int
          replace hSt := hSt9; clear hSt9
          obtain ⟨o, r, rfl, ⟨ad, ho, rfl⟩, hSt9⟩ := hSt.ref
          replace hSt := hSt9; clear hSt9
          obtain ⟨k0, a', e', q1, q2, ⟨X, rfl, hX1, hX2⟩⟩ := hI.1 a _ ha
          cases ho.symm.trans q2
          obtain ⟨n', X⟩ := X
          cases (show n' = n from hX1)
          obtain ⟨i1, i2, i3⟩ := sx_ix_ok hk hx9
          match X, hX2 with
          | .inl f, hX2 => exact absurd hX2.1 (by omega)
          | .inr (.inl f), hX2 => exact absurd hX2.1 (by omega)
          | .inr (.inr (.inl f)), hX2 => exact hX2.elim
          | .inr (.inr (.inr (.inl f))), hX2 => exact hX2.elim
          | .inr (.inr (.inr (.inr f))), hX2 =>
            have fin : ∀ (H1 : Heap) (locs1 : List Loc), va_P D vwCl (wl.set k0 (ad, .inl (cA t, n, .inr (.inr (.inr (.inr (va_up f x.toNatClampNeg ov))))))) H1 → va_D A (wl.set k0 (ad, .inl (cA t, n, .inr (.inr (.inr (.inr (va_up f x.toNatClampNeg ov))))))) → va_S A s.heap H1 locs1 → W p l e R s m args below meth c H1 locs1 cells slots Q (F0 m (pc + 1) ls r) := by
              intro H1 locs1 hP1 hD1 hS1
              rw [i2] at hP1 hD1
              exact K _ H1 locs1 (hI.set ho q1 ⟨(n, .inr (.inr (.inr (.inr (va_up f k ov))))), rfl, rfl, hX2.1, hX2.2.put (by simp [va_up]; exact sx_RVr hv) (fun j hj => by simp [va_up, hj])⟩ hP1 hD1) hS1 ls lv _ hl hL hSt
            match v, hv, hqk with
            | none, hv, _ =>
              have hv : ov = none := hv
              subst hv
              exact va_astqN hx hb hK hI.2.2.2.2.1 hI.2.2.2.2.2 hS k0 t q1 (sx_tys_at hCn) i1 hdg fin
            | some (.inl j), ⟨jd, hj, hov⟩, hqk =>
              subst hov
              unfold sx_qok at hqk
              simp only at hqk
              split at hqk
              · rename_i ci fs hcj
                split at hqk
                · rename_i q C' hq1 hq2
                  have hCC : C' = Cn := by rw [hCn] at hq2; cases hq2; rfl
                  obtain ⟨k1, a1, e1, p1, p2, ⟨xs, rfl, hxs⟩⟩ := hI.1 j _ hcj
                  cases hj.symm.trans p2
                  rw [Bool.or_eq_true, Bool.and_eq_true] at hqk
                  rcases hqk with hqk | ⟨hqk, hqn⟩
                  · have e1 := of_decide_eq_true hqk
                    have hty : (sx_tys cA)[t]? = some (cA t, .object q.1) := by rw [e1, hCC]; exact sx_tys_at hCn
                    exact va_astq hx hb hK hI.2.2.2.2.1 hI.2.2.2.2.2 hS k0 t k1 ci q1 hty p1 hq1 i1 hdg fin
                  · have e1 := of_decide_eq_true hqk
                    have hty : (sx_tys cA)[t]? = some (cA t, .object "java/lang/Object") := by rw [← e1, hCC]; exact sx_tys_at hCn
                    obtain ⟨x9, h8, h9⟩ := List.any_eq_true.mp hqn
                    have hcast : va_Nw (.castable q.1 "java/lang/Object") s := by
                      rw [← of_decide_eq_true h9]
                      exact hZ.2.2.2.2.2.2.2.2.2.2 x9 h8
                    exact va_astqO hx hb hK hI.2.2.2.2.1 hI.2.2.2.2.2 hS k0 t k1 ci q1 hty hcast p1 hq1 i1 hdg fin
                · cases hqk
              · cases hqk
            | some (.inr q), _, hqk => cases hqk
        · cases h
    · cases h
  · cases h
/-! fields -/
/-- the word that links a field, perhaps by another class's name -/
def sx_lnk (tbs : List (List Cond)) (own : String) (mo t t2 idx : Nat) (decl n d : String) : Bool := match mo with
  | 0 => sx_has tbs t (.fieldLink own idx decl n d)
  | _ => (match sx_w tbs t with
    | some (.fieldLink o i ref n' d') => decide (o = own ∧ i = idx ∧ n' = n ∧ d' = d) && sx_has tbs t2 (.sameField ref decl n d)
    | _ => false)
theorem sx_lnk_ok (htb : sx_tbOK tbs tb) (hts : ∀ w ∈ tb, w.before args s = true) {mo t t2 idx : Nat} {decl n d : String} (h : sx_lnk tbs own mo t t2 idx decl n d = true) : ∃ ref, (Cond.fieldLink own idx ref n d).before args s = true ∧ ∀ x, s.fieldFound? decl n d = some x → s.fieldFound? ref n d = some x := by
  unfold sx_lnk at h
  split at h
  · exact ⟨decl, hts _ (sx_has_in htb h), fun _ h9 => h9⟩
  · split at h
    · rename_i o i ref n' d' hw
      rw [Bool.and_eq_true] at h
      obtain ⟨rfl, rfl, rfl, rfl⟩ := of_decide_eq_true h.1
      exact ⟨ref, hts _ (sx_w_in htb hw), u_same (hts _ (sx_has_in htb h.2))⟩
    · cases h
def sx_getf (aux : List Nat) (L : List (Nat × sx_V)) (S : List sx_V) (w : sx_W) (nx : Nat) : Option sx_ST := match aux with
  | [_, ci, k, _, _, x] => (match S with
    | .inr (.inr (some (.inl a))) :: S => (match sx_look 12 w a with
      | some (.inl (cj, fs)) => bif Nat.beq cj ci then (match fs[k]? with
        | some (some v) => some (L, v :: S, w, nx, 0, 0)
        | _ => none) else none
      | _ => none)
    | .inr (.inr (some (.inr q))) :: S => bif Nat.beq (q % 2) 0 && Nat.ble 100 q && Nat.blt q 166 then (match x with
      | 1 => some (L, sx_int 0 :: S, w, nx, 0, 0)
      | 2 => some (L, sx_ext (q + 1) :: S, w, nx, 0, 0)
      | _ => none) else none
    | _ => none)
  | _ => none
def sx_okgetf (tbs : List (List Cond)) (own : String) (idx : Nat) (aux : List Nat) : Bool := match aux with
  | [mo, ci, k, t, t2, x] => (match vwCl[ci]? with
    | some q => Nat.blt k q.2.2 && sx_lnk tbs own mo t t2 idx (q.2.1 k).1 (q.2.1 k).2.1 (q.2.1 k).2.2.1 && (match x with
      | 1 => decide ((q.2.1 k).1 = "java/lang/String" ∧ (q.2.1 k).2.1 = "coder" ∧ (q.2.1 k).2.2.1 = "B")
      | 2 => decide ((q.2.1 k).1 = "java/lang/String" ∧ (q.2.1 k).2.1 = "value" ∧ (q.2.1 k).2.2.1 = "[B")
      | _ => true)
    | none => false)
  | _ => false
theorem sx_getf_ok (C : sx_CX p s m args meth c D cA z σ B A tb own mname cc nL) (htb : sx_tbOK tbs tb) (hcl : ∀ ci, sx_clOK tb ci) {idx : Nat} {aux : List Nat} (hdg : decode cc pc = .ok (.getfield idx, 3)) (hok : sx_okgetf tbs own idx aux = true)
    (h : sx_getf aux L S w nx = some (L', S', w', nx', dc, ds)) (K : sx_KM p l e R s m args below meth c Q D cA z σ Fr A nL (pc + 3) (cells + dc) (slots + ds) ρ L' S' w' nx') : sx_KM p l e R s m args below meth c Q D cA z σ Fr A nL pc cells slots ρ L S w nx := by
  intro wl H locs hI hS ls lv st hl hL hSt
  obtain ⟨hx, hb, hml, hts, hown, hK, hZ, hB, hA, hn⟩ := C
  unfold sx_getf at h
  split at h
  · rename_i mo ci k t t2 x
    unfold sx_okgetf at hok
    simp only at hok
    split at hok
    · rename_i q hq
      rw [Bool.and_eq_true, Bool.and_eq_true] at hok
      obtain ⟨⟨hk, hlk⟩, hstr⟩ := hok
      have hk : k < q.2.2 := Nat.le_of_ble_eq_true hk
      obtain ⟨ref, hlink, hsame⟩ := sx_lnk_ok htb hts hlk
      split at h
      · rename_i a S0
        split at h
        · rename_i cj fs ha
          cases hcj : Nat.beq cj ci with
          | false => rw [hcj] at h; cases h
          | true =>
            have ecj := Nat.eq_of_beq_eq_true hcj
            subst ecj
            rw [hcj] at h
            simp only [cond_true] at h
            split at h
            · rename_i v hv
              cases h
              obtain ⟨o, r, rfl, ⟨ad, ho, rfl⟩, hSt9⟩ := hSt.ref
              replace hSt := hSt9; clear hSt9
              obtain ⟨k0, a', e', q1, q2, ⟨xs, rfl, hxs⟩⟩ := hI.1 a _ ha
              cases ho.symm.trans q2
              obtain ⟨xv, hxv, hRv⟩ := hxs.at hv
              exact va_get hx hb hts (hcl cj q hq).1 hown hK hI.2.2.2.2.1 k0 q1 hq k hk hlink hsame hxv hdg (K wl H locs hI hS ls lv _ hl hL ⟨hRv, hSt⟩)
            · cases h
        · cases h
      · rename_i q0 S0
        cases hg : (Nat.beq (q0 % 2) 0 && Nat.ble 100 q0 && Nat.blt q0 166) with
        | false => simp only [hg] at h; cases h
        | true =>
          simp only [hg, cond_true] at h
          rw [Bool.and_eq_true, Bool.and_eq_true] at hg
          have g1 := Nat.eq_of_beq_eq_true hg.1.1
          have g2 := Nat.le_of_ble_eq_true hg.1.2
          have g3 : q0 < 166 := Nat.le_of_ble_eq_true hg.2
          obtain ⟨j, rfl⟩ : ∃ j, q0 = 100 + 2 * j := ⟨(q0 - 100) / 2, by omega⟩
          have hj : j < 33 := by omega
          obtain ⟨-, -, -, -, -, -, -, -, h9, -, -⟩ := hZ
          obtain ⟨-, s2, s3, -⟩ := h9.1 j hj
          split at h
          · cases h
            obtain ⟨o, r, rfl, ho, hSt9⟩ := hSt.ref
            replace hSt := hSt9; clear hSt9
            have ho : o = some (z (100 + 2 * j)) := ho.1 (by omega) (by omega)
            subst ho
            obtain ⟨d1, d2, d3⟩ := of_decide_eq_true hstr
            rw [d1, d2, d3] at hsame
            rw [d2, d3] at hlink
            exact vk_getf hx hb s2 hS hown hlink hsame hdg (K wl H locs hI hS ls lv _ hl hL ⟨sx_RVi (sx_RNc 0), hSt⟩)
          · cases h
            obtain ⟨o, r, rfl, ho, hSt9⟩ := hSt.ref
            replace hSt := hSt9; clear hSt9
            have ho : o = some (z (100 + 2 * j)) := ho.1 (by omega) (by omega)
            subst ho
            obtain ⟨d1, d2, d3⟩ := of_decide_eq_true hstr
            rw [d1, d2, d3] at hsame
            rw [d2, d3] at hlink
            exact vk_getf hx hb s3 hS hown hlink hsame hdg (K wl H locs hI hS ls lv _ hl hL ⟨sx_RVr (r := some (.inr (100 + 2 * j + 1))) (o := some (z (101 + 2 * j))) ⟨fun _ _ => by rw [show 100 + 2 * j + 1 = 101 + 2 * j by omega], fun h9 => absurd h9 (by omega)⟩, hSt⟩)
          · cases h
      · cases h
    · cases hok
  · cases h
def sx_putf (B : sx_Bs) (aux : List Nat) (L : List (Nat × sx_V)) (S : List sx_V) (w : sx_W) (nx : Nat) : Option sx_ST := match aux with
  | [_, ci, k, _, _, ft] => (match S with
    | v :: .inr (.inr (some (.inl a))) :: S => (match sx_look 12 w a with
      | some (.inl (cj, fs)) => bif Nat.beq cj ci && sx_fit B ft v && Nat.blt k fs.length then some (L, S, sx_upd (.inl (cj, fs.set k (some v))) 12 w a, nx, 0, 0) else none
      | _ => none)
    | _ => none)
  | _ => none
def sx_okputf (tbs : List (List Cond)) (own mname : String) (idx : Nat) (aux : List Nat) : Bool := match aux with
  | [mo, ci, k, t, t2, ft] => (match vwCl[ci]? with
    | some q => Nat.blt k q.2.2 && sx_lnk tbs own mo t t2 idx (q.2.1 k).1 (q.2.1 k).2.1 (q.2.1 k).2.2.1 && (match parseFieldDescriptor (q.2.1 k).2.2.1 with
      | some ty => Nat.beq (sx_code ty) ft
      | none => false) && (!(q.2.1 k).2.2.2 || decide (mname = "<init>" ∧ (q.2.1 k).1 = own))
    | none => false)
  | _ => false
theorem sx_putf_ok (C : sx_CX p s m args meth c D cA z σ B A tb own mname cc nL) (htb : sx_tbOK tbs tb) (hcl : ∀ ci, sx_clOK tb ci) {idx : Nat} {aux : List Nat} (hdg : decode cc pc = .ok (.putfield idx, 3)) (hok : sx_okputf tbs own mname idx aux = true)
    (h : sx_putf B aux L S w nx = some (L', S', w', nx', dc, ds)) (K : sx_KM p l e R s m args below meth c Q D cA z σ Fr A nL (pc + 3) (cells + dc) (slots + ds) ρ L' S' w' nx') : sx_KM p l e R s m args below meth c Q D cA z σ Fr A nL pc cells slots ρ L S w nx := by
  intro wl H locs hI hS ls lv st hl hL hSt
  obtain ⟨hx, hb, hml, hts, hown, hK, hZ, hB, hA, hn⟩ := C
  unfold sx_putf at h
  split at h
  · rename_i mo ci k t t2 ft
    unfold sx_okputf at hok
    simp only at hok
    split at hok
    · rename_i q hq
      rw [Bool.and_eq_true, Bool.and_eq_true, Bool.and_eq_true] at hok
      obtain ⟨⟨⟨hk, hlk⟩, hft⟩, hfin⟩ := hok
      have hk : k < q.2.2 := Nat.le_of_ble_eq_true hk
      obtain ⟨ref, hlink, hsame⟩ := sx_lnk_ok htb hts hlk
      split at h
      · rename_i v a S0
        split at h
        · rename_i cj fs ha
          cases hcj : (Nat.beq cj ci && sx_fit B ft v && Nat.blt k fs.length) with
          | false => simp only [hcj] at h; cases h
          | true =>
            simp only [hcj, cond_true] at h
            rw [Bool.and_eq_true, Bool.and_eq_true] at hcj
            have ecj := Nat.eq_of_beq_eq_true hcj.1.1
            subst ecj
            have hkl : k < fs.length := Nat.le_of_ble_eq_true hcj.2
            cases h
            obtain ⟨xv, r, rfl, hv, hSt9⟩ := hSt.cons
            replace hSt := hSt9; clear hSt9
            obtain ⟨o, r, rfl, ⟨ad, ho, rfl⟩, hSt9⟩ := hSt.ref
            replace hSt := hSt9; clear hSt9
            obtain ⟨k0, a', e', q1, q2, ⟨xs, rfl, hxs⟩⟩ := hI.1 a _ ha
            cases ho.symm.trans q2
            obtain ⟨u1, ⟨ty, u2⟩, u3⟩ := hcl cj q hq
            split at hft
            · rename_i ty0 hty0
              obtain ⟨n1, n2⟩ := sx_fit_ok hB hcj.1.2 hv (Nat.eq_of_beq_eq_true hft)
              have kk : ∀ (H1 : Heap) (locs1 : List Loc), va_P D vwCl (wl.set k0 (ad, .inr (cj, xs.set k xv))) H1 → va_D A (wl.set k0 (ad, .inr (cj, xs.set k xv))) → va_S A s.heap H1 locs1 → W p l e R s m args below meth c H1 locs1 cells slots Q (F0 m (pc + 3) ls r) := fun H1 locs1 hP1 hD1 hS1 =>
                K _ H1 locs1 (hI.set ho q1 ⟨xs.set k xv, rfl, hxs.put hv⟩ hP1 hD1) hS1 ls lv _ hl hL hSt
              have hlen : k < xs.length := by rw [hxs.len]; exact hkl
              cases hf : (q.2.1 k).2.2.2 with
              | false => exact va_put hx hb hts u1 ty u2 u3 hown hK hI.2.2.2.2.1 hI.2.2.2.2.2 hS k0 q1 hq k hk hlink hsame hf hty0 n1 n2 hlen hdg kk
              | true =>
                rw [hf] at hfin
                obtain ⟨f1, f2⟩ := of_decide_eq_true (by simpa using hfin : decide (mname = "<init>" ∧ (q.2.1 k).1 = own) = true)
                exact va_putF hx hb hts u1 ty u2 u3 hown hK hI.2.2.2.2.1 hI.2.2.2.2.2 hS k0 q1 hq k hk hlink hsame hf (hn.trans f1) f2 hty0 n1 n2 hlen hdg kk
            · cases hft
        · cases h
      · cases h
    · cases hok
  · cases h
/-! making -/
def sx_dfl (ft : Nat) : Option sx_V := match ft with
  | 4 => some (.inr (.inl (sx_c 0)))
  | 5 => some sx_nul
  | _ => some (sx_int 0)
def sx_dfv (ft : Nat) : Value := match ft with
  | 4 => .long 0
  | 5 => .null
  | _ => .int 0
theorem sx_dfl_ok : ∀ cs : List Nat, sx_RFs ρ z σ (cs.map sx_dfl) (cs.map sx_dfv)
  | [] => trivial
  | ft :: cs => by
    refine ⟨?_, sx_dfl_ok cs⟩
    match ft with
    | 4 => exact sx_RVl (sx_RLc 0)
    | 5 => exact sx_RVr (o := none) rfl
    | 0 => exact sx_RVi (sx_RNc 0)
    | 1 => exact sx_RVi (sx_RNc 0)
    | 2 => exact sx_RVi (sx_RNc 0)
    | 3 => exact sx_RVi (sx_RNc 0)
    | n + 6 => exact sx_RVi (sx_RNc 0)
theorem sx_dfv_ok {ty : FieldType} (h : sx_code ty < 6) : defaultValue ty = sx_dfv (sx_code ty) := by
  cases ty <;> first | rfl | (exact absurd h (by decide))
def sx_new (aux : List Nat) (L : List (Nat × sx_V)) (S : List sx_V) (w : sx_W) (nx : Nat) : Option sx_ST := match aux with
  | ci :: _ :: _ :: _ :: cs => some (L, sx_id nx :: S, sx_upd (.inl (ci, cs.map sx_dfl)) 12 w nx, nx + 1, 1, cs.length)
  | _ => none
def sx_okcs (T : u_T) : Nat → List Nat → Bool
  | _, [] => true
  | k, c :: cs => (match parseFieldDescriptor (T k).2.2.1 with
    | some ty => Nat.beq (sx_code ty) c && Nat.blt c 6
    | none => false) && sx_okcs T (k + 1) cs
theorem sx_okcs_at {T : u_T} : ∀ {cs : List Nat} {k j : Nat}, sx_okcs T k cs = true → j < cs.length → ∃ ty, parseFieldDescriptor (T (k + j)).2.2.1 = some ty ∧ cs[j]? = some (sx_code ty) ∧ sx_code ty < 6
  | [], k, j, _, hj => absurd hj (Nat.not_lt_zero j)
  | c :: cs, k, 0, h, _ => by
    unfold sx_okcs at h
    rw [Bool.and_eq_true] at h
    have h := h.1
    split at h
    · rename_i ty hty
      rw [Bool.and_eq_true] at h
      have e1 := Nat.eq_of_beq_eq_true h.1
      exact ⟨ty, hty, by rw [← e1]; rfl, by have := Nat.le_of_ble_eq_true h.2; omega⟩
    · cases h
  | c :: cs, k, j + 1, h, hj => by
    unfold sx_okcs at h
    rw [Bool.and_eq_true] at h
    have hj : j < cs.length := Nat.lt_of_succ_lt_succ hj
    obtain ⟨ty, h1, h2, h3⟩ := sx_okcs_at (k := k + 1) (j := j) h.2 hj
    exact ⟨ty, by rw [show k + (j + 1) = k + 1 + j by omega]; exact h1, h2, h3⟩
def sx_oknew (tbs : List (List Cond)) (own : String) (idx : Nat) (aux : List Nat) : Bool := match aux with
  | ci :: t1 :: t2 :: t3 :: cs => (match vwCl[ci]? with
    | some q => sx_has tbs t1 (.classLink own idx q.1) && sx_has tbs t2 (.instantiable q.1 q.2.2) && sx_has tbs t3 (.initialized q.1) && Nat.beq cs.length q.2.2 && sx_okcs q.2.1 0 cs
    | none => false)
  | _ => false
theorem sx_new_ok (C : sx_CX p s m args meth c D cA z σ B A tb own mname cc nL) (htb : sx_tbOK tbs tb) (hcl : ∀ ci, sx_clOK tb ci) {idx : Nat} {aux : List Nat} (hdg : decode cc pc = .ok (.new idx, 3)) (hok : sx_oknew tbs own idx aux = true)
    (h : sx_new aux L S w nx = some (L', S', w', nx', dc, ds)) (hc : cells + dc ≤ R.cells) (hs : slots + ds ≤ R.slots) (K : ∀ ρ', sx_ge ρ ρ' → sx_KM p l e R s m args below meth c Q D cA z σ Fr A nL (pc + 3) (cells + dc) (slots + ds) ρ' L' S' w' nx') : sx_KM p l e R s m args below meth c Q D cA z σ Fr A nL pc cells slots ρ L S w nx := by
  intro wl H locs hI hS ls lv st hl hL hSt
  obtain ⟨hx, hb, hml, hts, hown, hK, hZ, hB, hA, hn⟩ := C
  unfold sx_new at h
  split at h
  · rename_i ci t1 t2 t3 cs
    cases h
    unfold sx_oknew at hok
    simp only at hok
    split at hok
    · rename_i q hq
      rw [Bool.and_eq_true, Bool.and_eq_true, Bool.and_eq_true, Bool.and_eq_true] at hok
      obtain ⟨⟨⟨⟨o1, o2⟩, o3⟩, o4⟩, o5⟩ := hok
      have o4 := Nat.eq_of_beq_eq_true o4
      obtain ⟨u1, ⟨ty, u2⟩, u3⟩ := hcl ci q hq
      have hfs : ∀ j, j < q.2.2 → defaultValue (ty j) = vp_V (cs.map sx_dfv) j := by
        intro j hj
        obtain ⟨ty', g1, g2, g3⟩ := sx_okcs_at o5 (show j < cs.length by omega)
        rw [Nat.zero_add, u2 j hj] at g1
        cases g1
        show _ = (cs.map sx_dfv).getD j .null
        rw [List.getD_eq_getElem?_getD, List.getElem?_map, g2]
        exact sx_dfv_ok g3
      rw [o4] at hs
      refine va_new hx hb hts u1 ty u2 hown (hts _ (sx_has_in htb o1)) (hts _ (sx_has_in htb o2)) (hts _ (sx_has_in htb o3)) hK hI.2.2.2.2.1 hI.2.2.2.2.2 hS hA hq hfs hc hs hdg (fun a H1 hP1 hD1 hS1 => ?_)
      obtain ⟨ρ', hg, hnx, hI'⟩ := hI.new (c := .inl (ci, cs.map sx_dfl)) hP1 hD1 (fun ρ' _ => ⟨_, rfl, sx_dfl_ok cs⟩)
      have := K ρ' hg
      rw [o4] at this
      exact this _ H1 locs hI' hS1 ls lv _ hl (hL.mono hg) ⟨sx_RVr (r := some (.inl nx)) ⟨a, hnx, rfl⟩, hSt.mono hg⟩
    · cases hok
  · cases h
/-- how many, as it is known -/
def sx_nn (v : sx_N) : Option Nat := match v with
  | .inl (.ofNat n, []) => bif Nat.ble n 1000000 then some n else none
  | _ => none
theorem sx_nn_ok {v : sx_N} {n : Nat} {x : Int32} (h : sx_nn v = some n) (hx : sx_RN σ v x) : x = nI n ∧ n ≤ 1000000 := by
  unfold sx_nn at h
  split at h
  · rename_i n0
    cases h1 : Nat.ble n0 1000000 with
    | false => rw [h1] at h; cases h
    | true =>
      rw [h1] at h
      cases h
      have hx : x = Int32.ofInt (sx_ev σ (sx_c (Int.ofNat n))) := hx
      rw [sx_ev_c] at hx
      exact ⟨hx.trans (Int32.ofInt_eq_ofNat (n := n)), Nat.le_of_ble_eq_true h1⟩
  · cases h
def sx_newa (aux : List Nat) (L : List (Nat × sx_V)) (S : List sx_V) (w : sx_W) (nx : Nat) : Option sx_ST := match aux, S with
  | [t, _], .inl v :: S => (match sx_nn v with
    | some n => some (L, sx_id nx :: S, sx_upd (.inr (t, n, true, [])) 12 w nx, nx + 1, 1, n)
    | none => none)
  | _, _ => none
def sx_oknewa (tbs : List (List Cond)) (at_ : ArrayType) (aux : List Nat) : Bool := match aux with
  | [t, wp] => Nat.blt t 5 && (match sx_tyF[t]? with
    | some ty => decide (ty = newarray.typeOf at_) && sx_has tbs wp (.arrayClass ty)
    | none => false)
  | _ => false
theorem sx_cA {tys : List (ClassId × FieldType)} (h1 : va_K D vwCl tys s) {k1 k2 : Nat} {c1 c2 : ClassId} {ty : FieldType} (e1 : tys[k1]? = some (c1, ty)) (e2 : tys[k2]? = some (c2, ty)) : c1 = c2 := by
  have g1 := (h1.2 k1 _ e1).2
  have g2 := (h1.2 k2 _ e2).2
  cases ty with
  | object C =>
    obtain ⟨_, _, -, -, -, q1⟩ := g1
    obtain ⟨_, _, -, -, -, q2⟩ := g2
    exact Option.some.inj (q1.symm.trans q2)
  | _ => exact Option.some.inj ((show s.vm.findClass _ = some c1 from g1).symm.trans (show s.vm.findClass _ = some c2 from g2))
theorem sx_newa_ok (C : sx_CX p s m args meth c D cA z σ B A tb own mname cc nL) (htb : sx_tbOK tbs tb) {at_ : ArrayType} {aux : List Nat} (hdg : decode cc pc = .ok (.newarray at_, 2)) (hok : sx_oknewa tbs at_ aux = true)
    (h : sx_newa aux L S w nx = some (L', S', w', nx', dc, ds)) (hc : cells + dc ≤ R.cells) (hs : slots + ds ≤ R.slots) (K : ∀ ρ', sx_ge ρ ρ' → sx_KM p l e R s m args below meth c Q D cA z σ Fr A nL (pc + 2) (cells + dc) (slots + ds) ρ' L' S' w' nx') : sx_KM p l e R s m args below meth c Q D cA z σ Fr A nL pc cells slots ρ L S w nx := by
  intro wl H locs hI hS ls lv st hl hL hSt
  obtain ⟨hx, hb, hml, hts, hown, hK, hZ, hB, hA, hn⟩ := C
  unfold sx_newa at h
  split at h
  · rename_i t wp v S0
    split at h
    · rename_i n hnn
      cases h
      unfold sx_oknewa at hok
      simp only at hok
      rw [Bool.and_eq_true] at hok
      have t5 : t < 5 := Nat.le_of_ble_eq_true hok.1
      have hok := hok.2
      split at hok
      · rename_i ty hty
        rw [Bool.and_eq_true] at hok
        have ety := of_decide_eq_true hok.1
        obtain ⟨x, r, rfl, hx9, hSt9⟩ := hSt.int
        replace hSt := hSt9; clear hSt9
        obtain ⟨rfl, hn9⟩ := sx_nn_ok hnn hx9
        have lst : ∀ {cB : ClassId}, (sx_tys cA ++ [(cB, ty)])[(sx_tys cA).length]? = some (cB, ty) := fun {cB} => by rw [List.getElem?_append_right (Nat.le_refl _), Nat.sub_self]; rfl
        have old : ∀ {cB : ClassId}, (sx_tys cA ++ [(cB, ty)])[t]? = some (cA t, ty) := fun {cB} => by
          have := sx_tys_at (cA := cA) hty
          rw [List.getElem?_append_left (List.getElem?_eq_some_iff.mp this).1]
          exact this
        have go : ∀ (a0 : vp_A), (∀ cB : ClassId, vp_cell cB a0 = arrV cB ds (fun _ => defaultValue ty)) → (∀ ρ', sx_RX ρ' z σ t ds true [] a0) → ds * componentBytes ty ≤ 536870912 → W p l e R s m args below meth c H locs cells slots Q (F0 m pc ls (.int (nI ds) :: r)) := by
          intro a0 ha0 hX hby
          refine va_newa hx hb (hts _ (by rw [← ety]; exact sx_has_in htb hok.2)) ety.symm hK hI.2.2.2.2.1 hI.2.2.2.2.2 hS hA ha0 (nI_pos (by omega)) (nI_clamp (by omega)) hby hc hs hdg (fun a cB H1 hK1 hP1 hD1 hS1 => ?_)
          obtain rfl := sx_cA hK1 lst old
          obtain ⟨ρ', hg, hnx, hI'⟩ := hI.new (c := .inr (t, ds, true, [])) hP1 hD1 (fun ρ' _ => ⟨a0, rfl, hX ρ'⟩)
          exact K ρ' hg _ H1 locs hI' hS1 ls lv _ hl (hL.mono hg) ⟨sx_RVr (r := some (.inl nx)) ⟨a, hnx, rfl⟩, hSt.mono hg⟩
        have cb : ∀ i : Fin 5, ∀ ty, sx_tyF[i.val]? = some ty → componentBytes ty ≤ 8 := by decide +kernel
        have hb8 : ds * componentBytes ty ≤ 536870912 := Nat.le_trans (Nat.mul_le_mul_left ds (cb ⟨t, t5⟩ ty hty)) (by omega)
        by_cases h4 : t = 4
        · subst h4
          cases hty
          exact go (ds, .inr (.inl (fun _ => 0))) (fun _ => rfl) (fun ρ' => ⟨rfl, rfl, fun k _ => rfl⟩) hb8
        · have hi : ∀ i : Fin 4, ∀ ty, sx_tyF[i.val]? = some ty → defaultValue ty = .int 0 := by decide +kernel
          exact go (ds, .inl (fun _ => 0)) (fun _ => by rw [hi ⟨t, by omega⟩ ty hty]; rfl) (fun ρ' => ⟨rfl, by omega, fun k _ => rfl⟩) hb8
      · cases hok
    · cases h
  · cases h
def sx_oknewq (tbs : List (List Cond)) (own : String) (idx : Nat) (aux : List Nat) : Bool := match aux with
  | [t, wp] => Nat.ble 5 t && (match sx_tyF[t]? with
    | some (.object C) => sx_has tbs wp (.classLink own idx C) && sk_nest.any (fun x => decide (x = .arrayOver (.object C)))
    | _ => false)
  | _ => false
theorem sx_newq_ok (C : sx_CX p s m args meth c D cA z σ B A tb own mname cc nL) (htb : sx_tbOK tbs tb) {idx : Nat} {aux : List Nat} (hdg : decode cc pc = .ok (.anewarray idx, 3)) (hok : sx_oknewq tbs own idx aux = true)
    (h : sx_newa aux L S w nx = some (L', S', w', nx', dc, ds)) (hc : cells + dc ≤ R.cells) (hs : slots + ds ≤ R.slots) (K : ∀ ρ', sx_ge ρ ρ' → sx_KM p l e R s m args below meth c Q D cA z σ Fr A nL (pc + 3) (cells + dc) (slots + ds) ρ' L' S' w' nx') : sx_KM p l e R s m args below meth c Q D cA z σ Fr A nL pc cells slots ρ L S w nx := by
  intro wl H locs hI hS ls lv st hl hL hSt
  obtain ⟨hx, hb, hml, hts, hown, hK, hZ, hB, hA, hn⟩ := C
  unfold sx_newa at h
  split at h
  · rename_i t wp v S0
    split at h
    · rename_i n hnn
      cases h
      unfold sx_oknewq at hok
      simp only at hok
      rw [Bool.and_eq_true] at hok
      have t5 : 5 ≤ t := Nat.le_of_ble_eq_true hok.1
      have hok := hok.2
      split at hok
      · rename_i Cn hty
        rw [Bool.and_eq_true] at hok
        obtain ⟨x9, h8, h9⟩ := List.any_eq_true.mp hok.2
        have hover : va_AO Cn s := by
          have := hZ.2.2.2.2.2.2.2.2.2.2 x9 h8
          rw [of_decide_eq_true h9] at this
          exact va_AO.of this
        obtain ⟨x, r, rfl, hx9, hSt9⟩ := hSt.int
        replace hSt := hSt9; clear hSt9
        obtain ⟨rfl, hn9⟩ := sx_nn_ok hnn hx9
        have lst : ∀ {cB : ClassId}, (sx_tys cA ++ [(cB, .object Cn)])[(sx_tys cA).length]? = some (cB, .object Cn) := fun {cB} => by rw [List.getElem?_append_right (Nat.le_refl _), Nat.sub_self]; rfl
        have old : ∀ {cB : ClassId}, (sx_tys cA ++ [(cB, .object Cn)])[t]? = some (cA t, .object Cn) := fun {cB} => by
          have := sx_tys_at (cA := cA) hty
          rw [List.getElem?_append_left (List.getElem?_eq_some_iff.mp this).1]
          exact this
        refine va_newq hx hb hown (hts _ (sx_has_in htb hok.1)) hover hK hI.2.2.2.2.1 hI.2.2.2.2.2 hS hA (nI_pos (by omega)) (nI_clamp (by omega)) (by omega) hc hs hdg (fun a cB H1 hK1 hP1 hD1 hS1 => ?_)
        obtain rfl := sx_cA hK1 lst old
        obtain ⟨ρ', hg, hnx, hI'⟩ := hI.new (c := .inr (t, ds, true, [])) hP1 hD1 (fun ρ' _ => ⟨(ds, .inr (.inr (.inr (.inr (fun _ => none))))), rfl, rfl, t5, fun k _ => rfl⟩)
        exact K ρ' hg _ H1 locs hI' hS1 ls lv _ hl (hL.mono hg) ⟨sx_RVr (r := some (.inl nx)) ⟨a, hnx, rfl⟩, hSt.mono hg⟩
      · cases hok
    · cases h
  · cases h
end SXB
