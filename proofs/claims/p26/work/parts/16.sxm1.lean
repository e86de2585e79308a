/-! instructions that touch objects and rows -/
abbrev sx_ST : Type := List (Nat × sx_V) × List sx_V × sx_W × Nat × Nat × Nat
def sx_elt (t : Nat) (zr : Bool) (u : List (Nat × sx_V)) (k : Nat) : Option sx_V := match sx_lk u k with
  | some v => some v
  | none => bif zr then (bif Nat.blt t 4 then some (sx_int 0) else bif Nat.beq t 4 then some (.inr (.inl (sx_c 0))) else some sx_nul) else (bif Nat.blt t 4 then some (.inl sx_full) else none)
theorem sx_elt_i {ρ : Nat → Option Nat} {z : Nat → Nat} {σ : Nat → Int} {t : Nat} {zr : Bool} {u : List (Nat × sx_V)} {k : Nat} {v : sx_V} {f : Nat → Int32} (ht : t < 4) (hA : sx_RA ρ z σ u zr (.int 0) (fun k => .int (f k))) (h : sx_elt t zr u k = some v) : sx_RV ρ z σ v (.int (f k)) := by
  have hA := hA k
  have h4 : Nat.blt t 4 = true := Nat.ble_eq.mpr ht
  unfold sx_elt at h
  cases hk : sx_lk u k with
  | some y => rw [hk] at h hA; cases h; exact hA
  | none =>
    rw [hk] at h hA
    cases zr with
    | true =>
      simp only [cond_true, h4] at h
      cases h
      have e : f k = 0 := Value.int.inj (hA rfl)
      show sx_RV ρ z σ (sx_int 0) (.int (f k))
      rw [e]
      exact sx_RVi (sx_RNc 0)
    | false =>
      simp only [cond_false, cond_true, h4] at h
      cases h
      exact sx_RVi (sx_full_ok σ _)
theorem sx_elt_l {ρ : Nat → Option Nat} {z : Nat → Nat} {σ : Nat → Int} {zr : Bool} {u : List (Nat × sx_V)} {k : Nat} {v : sx_V} {f : Nat → Int64} (hA : sx_RA ρ z σ u zr (.long 0) (fun k => .long (f k))) (h : sx_elt 4 zr u k = some v) : sx_RV ρ z σ v (.long (f k)) := by
  have hA := hA k
  unfold sx_elt at h
  cases hk : sx_lk u k with
  | some y => rw [hk] at h hA; cases h; exact hA
  | none =>
    rw [hk] at h hA
    cases zr with
    | true =>
      cases h
      have e : f k = 0 := Value.long.inj (hA rfl)
      show sx_RV ρ z σ _ (.long (f k))
      rw [e]
      exact sx_RVl (sx_RLc 0)
    | false => cases h
theorem sx_elt_q {ρ : Nat → Option Nat} {z : Nat → Nat} {σ : Nat → Int} {t : Nat} {zr : Bool} {u : List (Nat × sx_V)} {k : Nat} {v : sx_V} {f : Nat → Option Nat} (ht : 5 ≤ t) (hA : sx_RA ρ z σ u zr .null (fun k => va_rf (f k))) (h : sx_elt t zr u k = some v) : sx_RV ρ z σ v (va_rf (f k)) := by
  have hA := hA k
  have h4 : Nat.blt t 4 = false := by
    cases hb : Nat.blt t 4 with
    | false => rfl
    | true => have := Nat.le_of_ble_eq_true hb; omega
  have h5 : Nat.beq t 4 = false := by
    cases hb : Nat.beq t 4 with
    | false => rfl
    | true => have := Nat.eq_of_beq_eq_true hb; omega
  unfold sx_elt at h
  cases hk : sx_lk u k with
  | some y => rw [hk] at h hA; cases h; exact hA
  | none =>
    rw [hk] at h hA
    cases zr with
    | true =>
      simp only [cond_true, cond_false, h4, h5] at h
      cases h
      have e : va_rf (f k) = .null := hA rfl
      show sx_RV ρ z σ sx_nul (va_rf (f k))
      rw [e]
      exact sx_RVr (o := none) rfl
    | false => simp only [cond_false, h4] at h; cases h
/-- loading from a row: tk says which types -/
def sx_ald (tk : Nat → Bool) (L : List (Nat × sx_V)) (S : List sx_V) (w : sx_W) (nx : Nat) : Option sx_ST := match S with
  | .inl i :: .inr (.inr (some (.inl a))) :: S => (match sx_look 12 w a with
    | some (.inr (t, n, zr, u)) => bif tk t then (match sx_ix n i with
      | some k => (match sx_elt t zr u k with
        | some v => some (L, v :: S, w, nx, 0, 0)
        | none => none)
      | none => none) else none
    | _ => none)
  | _ => none
/-- from a row that stands outside: the places as numbers -/
def sx_aldx (f : Nat → Option (List Nat)) (L : List (Nat × sx_V)) (S : List sx_V) (w : sx_W) (nx : Nat) : Option sx_ST := match S with
  | .inl i :: .inr (.inr (some (.inr q))) :: S => (match f q with
    | some l => (match sx_ix l.length i with
      | some k => (match l[k]? with
        | some v => some (L, sx_int (.ofNat v) :: S, w, nx, 0, 0)
        | none => none)
      | none => none)
    | none => none)
  | _ => none
def sx_bytq (q : Nat) : Option (List Nat) := bif Nat.beq (q % 2) 1 && Nat.ble 101 q then sk_num[(q - 101) / 2]? else none
def sx_intq (q : Nat) : Option (List Nat) := match q with
  | 1 => some sk_RANKS
  | 2 => some sk_PLAIN
  | _ => none
def sx_or {α : Type} (a b : Option α) : Option α := match a with
  | some x => some x
  | none => b
def sx_alen (L : List (Nat × sx_V)) (S : List sx_V) (w : sx_W) (nx : Nat) : Option sx_ST := match S with
  | .inr (.inr (some (.inl a))) :: S => (match sx_look 12 w a with
    | some (.inr (t, n, _, _)) => bif Nat.blt t 13 then some (L, sx_int (.ofNat n) :: S, w, nx, 0, 0) else none
    | _ => none)
  | .inr (.inr (some (.inr q))) :: S => (match q with
    | 0 => some (L, sx_int 0 :: S, w, nx, 0, 0)
    | q => (match sx_or (sx_intq q) (sx_bytq q) with
      | some l => some (L, sx_int (.ofNat l.length) :: S, w, nx, 0, 0)
      | none => none))
  | _ => none
def sx_ast (B : sx_Bs) (tk : Nat → Option Nat) (L : List (Nat × sx_V)) (S : List sx_V) (w : sx_W) (nx : Nat) : Option sx_ST := match S with
  | v :: .inl i :: .inr (.inr (some (.inl a))) :: S => (match sx_look 12 w a with
    | some (.inr (t, n, zr, u)) => (match tk t with
      | some ft => bif sx_fit B ft v then (match sx_ix n i with
        | some k => some (L, S, sx_upd (.inr (t, n, zr, sx_put u k v)) 12 w a, nx, 0, 0)
        | none => none) else none
      | none => none)
    | _ => none)
  | _ => none
/-- a reference into a row: null, or an object of the row's own class, or of any class into a row of Objects -/
def sx_qok (t : Nat) (w : sx_W) (v : sx_F) : Bool := match v with
  | none => true
  | some (.inl j) => (match sx_look 12 w j with
    | some (.inl (ci, _)) => (match vwCl[ci]?, sx_tyF[t]? with
      | some q, some (.object C) => decide (q.1 = C) || (decide (C = "java/lang/Object") && sk_nest.any (fun x => decide (x = .castable q.1 "java/lang/Object")))
      | _, _ => false)
    | _ => false)
  | _ => false
def sx_asq (L : List (Nat × sx_V)) (S : List sx_V) (w : sx_W) (nx : Nat) : Option sx_ST := match S with
  | .inr (.inr v) :: .inl i :: .inr (.inr (some (.inl a))) :: S => (match sx_look 12 w a with
    | some (.inr (t, n, zr, u)) => bif Nat.ble 5 t && Nat.blt t 13 && sx_qok t w v then (match sx_ix n i with
      | some k => some (L, S, sx_upd (.inr (t, n, zr, sx_put u k (.inr (.inr v)))) 12 w a, nx, 0, 0)
      | none => none) else none
    | _ => none)
  | _ => none
section SXA
variable {p : Program} {l : Launch} {e : Env} {R : Room} {s : State} {m : MethodId} {args : Array Value} {below : List Frame} {meth : Method} {c : Code} {Q : State → Prop}
variable {D : va_G} {cA : Nat → ClassId} {z : Nat → Nat} {σ : Nat → Int} {B : sx_Bs} {Fr : va_W} {A : Nat → Prop} {tb : List Cond} {own mname : String} {cc : ByteArray} {nL pc cells slots : Nat}
variable {ρ : Nat → Option Nat} {L L' : List (Nat × sx_V)} {S S' : List sx_V} {w w' : sx_W} {nx nx' dc ds : Nat}
theorem sx_ald_ok (C : sx_CX p s m args meth c D cA z σ B A tb own mname cc nL) {tk : Nat → Bool} (htk : ∀ t, tk t = true → t < 4) {d : Nat}
    (rule : ∀ {t : Nat} {wl : va_W} {H : Heap} {locs : List Loc} {q0 a n : Nat} {f : Nat → Int32} {i : Int32} {ls : Array Slot} {r : List Value}, tk t = true → va_P D vwCl wl H → wl[q0]? = some (a, .inl (cA t, n, .inl f)) → vp_in i n → W p l e R s m args below meth c H locs cells slots Q (F0 m (pc + d) ls (.int (f i.toNatClampNeg) :: r)) → W p l e R s m args below meth c H locs cells slots Q (F0 m pc ls (.int i :: .ref a :: r)))
    (h : sx_ald tk L S w nx = some (L', S', w', nx', dc, ds)) (K : sx_KM p l e R s m args below meth c Q D cA z σ Fr A nL (pc + d) (cells + dc) (slots + ds) ρ L' S' w' nx') : sx_KM p l e R s m args below meth c Q D cA z σ Fr A nL pc cells slots ρ L S w nx := by
  intro wl H locs hI hS ls lv st hl hL hSt
  unfold sx_ald at h
  split at h
  · rename_i i a S0
    split at h
    · rename_i t n zr u ha
      cases ht : tk t with
      | false => rw [ht] at h; cases h
      | true =>
        rw [ht] at h
        simp only [cond_true] at h
        split at h
        · rename_i k hk
          split at h
          · rename_i v hv
            cases h
            obtain ⟨x, r, rfl, hx, hSt9⟩ := hSt.int
            replace hSt := hSt9; clear hSt9
            obtain ⟨o, r, rfl, ⟨ad, ho, rfl⟩, hSt9⟩ := hSt.ref
            replace hSt := hSt9; clear hSt9
            obtain ⟨k0, a', e', q1, q2, ⟨X, rfl, hX1, hX2⟩⟩ := hI.1 a _ ha
            cases ho.symm.trans q2
            obtain ⟨n', X⟩ := X
            cases (show n' = n from hX1)
            obtain ⟨i1, i2, i3⟩ := sx_ix_ok hk hx
            match X, hX2 with
            | .inl f, hX2 =>
              refine rule ht hI.2.2.2.2.1 q1 i1 (K wl H locs hI hS ls lv _ hl hL ⟨?_, hSt⟩)
              rw [i2]
              exact sx_elt_i hX2.1 hX2.2 hv
            | .inr (.inl f), hX2 => have := htk t ht; exact absurd hX2.1 (by omega)
            | .inr (.inr (.inl f)), hX2 => exact hX2.elim
            | .inr (.inr (.inr (.inl f))), hX2 => exact hX2.elim
            | .inr (.inr (.inr (.inr f))), hX2 => have := htk t ht; exact absurd hX2.1 (by omega)
          · cases h
        · cases h
    · cases h
  · cases h
theorem sx_lald_ok (C : sx_CX p s m args meth c D cA z σ B A tb own mname cc nL) (hdg : decode cc pc = .ok (.laload, 1))
    (h : sx_ald (fun t => Nat.beq t 4) L S w nx = some (L', S', w', nx', dc, ds)) (K : sx_KM p l e R s m args below meth c Q D cA z σ Fr A nL (pc + 1) (cells + dc) (slots + ds) ρ L' S' w' nx') : sx_KM p l e R s m args below meth c Q D cA z σ Fr A nL pc cells slots ρ L S w nx := by
  intro wl H locs hI hS ls lv st hl hL hSt
  obtain ⟨hx, hb, hml, hts, hown, hK, hZ, hB, hA, hn⟩ := C
  unfold sx_ald at h
  split at h
  · rename_i i a S0
    split at h
    · rename_i t n zr u ha
      cases ht : Nat.beq t 4 with
      | false => simp only [ht] at h; cases h
      | true =>
        have e4 := Nat.eq_of_beq_eq_true ht
        subst e4
        simp only [show Nat.beq 4 4 = true from rfl, cond_true] at h
        split at h
        · rename_i k hk
          split at h
          · rename_i v hv
            cases h
            obtain ⟨x, r, rfl, hx9, hSt9⟩ := hSt.int
            replace hSt := hSt9; clear hSt9
            obtain ⟨o, r, rfl, ⟨ad, ho, rfl⟩, hSt9⟩ := hSt.ref
            replace hSt := hSt9; clear hSt9
            obtain ⟨k0, a', e', q1, q2, ⟨X, rfl, hX1, hX2⟩⟩ := hI.1 a _ ha
            cases ho.symm.trans q2
            obtain ⟨n', X⟩ := X
            cases (show n' = n from hX1)
            obtain ⟨i1, i2, i3⟩ := sx_ix_ok hk hx9
            match X, hX2 with
            | .inl f, hX2 => exact absurd hX2.1 (by omega)
            | .inr (.inl f), hX2 =>
              refine va_lald hx hb hK hI.2.2.2.2.1 k0 4 q1 (sx_tys_at rfl) i1 hdg (K wl H locs hI hS ls lv _ hl hL ⟨?_, hSt⟩)
              rw [i2]
              exact sx_elt_l hX2.2 hv
            | .inr (.inr (.inl f)), hX2 => exact hX2.elim
            | .inr (.inr (.inr (.inl f))), hX2 => exact hX2.elim
            | .inr (.inr (.inr (.inr f))), hX2 => exact absurd hX2.1 (by omega)
          · cases h
        · cases h
    · cases h
  · cases h
theorem sx_tyob {t : Nat} (h5 : 5 ≤ t) (h13 : t < 13) : ∃ C, sx_tyF[t]? = some (.object C) := by
  have : ∀ i : Fin 8, ∃ C, sx_tyF[i.val + 5]? = some (.object C) := by
    intro i
    have hi := i.isLt
    show ∃ C, (sx_tyF)[i.val + 5]? = some (.object C)
    unfold sx_tyF
    rw [List.getElem?_append_right (by show 5 ≤ i.val + 5; omega), List.getElem?_map]
    show ∃ C, Option.map _ (sx_tyo[i.val + 5 - 5]?) = _
    rw [show i.val + 5 - 5 = i.val by omega]
    exact ⟨sx_tyo[i.val]'(by show i.val < 8; exact hi), by rw [List.getElem?_eq_getElem (by show i.val < 8; exact hi)]; rfl⟩
  obtain ⟨C, hC⟩ := this ⟨t - 5, by omega⟩
  exact ⟨C, by rw [← hC]; congr 1; show t = t - 5 + 5; omega⟩
theorem sx_aald_ok (C : sx_CX p s m args meth c D cA z σ B A tb own mname cc nL) (hdg : decode cc pc = .ok (.aaload, 1))
    (h : sx_ald (fun t => Nat.ble 5 t && Nat.blt t 13) L S w nx = some (L', S', w', nx', dc, ds)) (K : sx_KM p l e R s m args below meth c Q D cA z σ Fr A nL (pc + 1) (cells + dc) (slots + ds) ρ L' S' w' nx') : sx_KM p l e R s m args below meth c Q D cA z σ Fr A nL pc cells slots ρ L S w nx := by
  intro wl H locs hI hS ls lv st hl hL hSt
  obtain ⟨hx, hb, hml, hts, hown, hK, hZ, hB, hA, hn⟩ := C
  unfold sx_ald at h
  split at h
  · rename_i i a S0
    split at h
    · rename_i t n zr u ha
      cases ht : (Nat.ble 5 t && Nat.blt t 13) with
      | false => simp only [ht] at h; cases h
      | true =>
        simp only [ht, cond_true] at h
        rw [Bool.and_eq_true] at ht
        have t5 : 5 ≤ t := Nat.le_of_ble_eq_true ht.1
        have t13 : t < 13 := Nat.le_of_ble_eq_true ht.2
        obtain ⟨Cn, hCn⟩ := sx_tyob t5 t13
        split at h
        · rename_i k hk
          split at h
          · rename_i v hv
            cases h
            obtain ⟨x, r, rfl, hx9, hSt9⟩ := hSt.int
            replace hSt := hSt9; clear hSt9
            obtain ⟨o, r, rfl, ⟨ad, ho, rfl⟩, hSt9⟩ := hSt.ref
            replace hSt := hSt9; clear hSt9
            obtain ⟨k0, a', e', q1, q2, ⟨X, rfl, hX1, hX2⟩⟩ := hI.1 a _ ha
            cases ho.symm.trans q2
            obtain ⟨n', X⟩ := X
            cases (show n' = n from hX1)
            obtain ⟨i1, i2, i3⟩ := sx_ix_ok hk hx9
            match X, hX2 with
            | .inl f, hX2 => exact absurd hX2.1 (by omega)
            | .inr (.inl f), hX2 => exact absurd hX2.1 (by omega)
            | .inr (.inr (.inl f)), hX2 => exact hX2.elim
            | .inr (.inr (.inr (.inl f))), hX2 => exact hX2.elim
            | .inr (.inr (.inr (.inr f))), hX2 =>
              refine va_aldq hx hb hK hI.2.2.2.2.1 k0 t q1 (sx_tys_at hCn) i1 hdg (K wl H locs hI hS ls lv _ hl hL ⟨?_, hSt⟩)
              rw [i2]
              exact sx_elt_q t5 hX2.2 hv
          · cases h
        · cases h
    · cases h
  · cases h
theorem sx_bytq_ok : ∀ j : Fin 33, (sk_num[j.val]?).map (fun l => l.map (fun v => Int32.ofInt (.ofNat v))) = some (sk_byt.getD j.val []) ∧ (sk_num[j.val]?).map List.length = some (sk_len.getD j.val 0) := by decide +kernel
theorem sx_bytq_at {q : Nat} {lq : List Nat} (h : sx_bytq q = some lq) : ∃ j, j < 33 ∧ q = 101 + 2 * j ∧ lq.length = sk_len.getD j 0 ∧ ∀ k v, lq[k]? = some v → (sk_byt.getD j []).getD k 0 = Int32.ofInt (.ofNat v) := by
  unfold sx_bytq at h
  cases h1 : (Nat.beq (q % 2) 1 && Nat.ble 101 q) with
  | false => rw [h1] at h; cases h
  | true =>
    rw [h1] at h
    simp only [cond_true] at h
    rw [Bool.and_eq_true] at h1
    have e1 := Nat.eq_of_beq_eq_true h1.1
    have e2 := Nat.le_of_ble_eq_true h1.2
    have hj : (q - 101) / 2 < 33 := (List.getElem?_eq_some_iff.mp h).1
    obtain ⟨b1, b2⟩ := sx_bytq_ok ⟨_, hj⟩
    simp only [h, Option.map_some, Option.some.injEq] at b1 b2
    refine ⟨(q - 101) / 2, hj, by omega, b2, fun k v hk => ?_⟩
    rw [← b1, List.getD_eq_getElem?_getD, List.getElem?_map, hk]
    rfl
theorem sx_ix_nat {σ : Nat → Int} {n k : Nat} {i : sx_N} {x : Int32} (h : sx_ix n i = some k) (hx : sx_RN σ i x) : x.toNatClampNeg = k := (sx_ix_ok h hx).2.1
theorem sx_baldx_ok (C : sx_CX p s m args meth c D cA z σ B A tb own mname cc nL) (hdg : decode cc pc = .ok (.baload, 1))
    (h : sx_aldx sx_bytq L S w nx = some (L', S', w', nx', dc, ds)) (K : sx_KM p l e R s m args below meth c Q D cA z σ Fr A nL (pc + 1) (cells + dc) (slots + ds) ρ L' S' w' nx') : sx_KM p l e R s m args below meth c Q D cA z σ Fr A nL pc cells slots ρ L S w nx := by
  intro wl H locs hI hS ls lv st hl hL hSt
  obtain ⟨hx, hb, hml, hts, hown, hK, hZ, hB, hA, hn⟩ := C
  unfold sx_aldx at h
  split at h
  · rename_i i q S0
    split at h
    · rename_i lq hq
      split at h
      · rename_i k hk
        split at h
        · rename_i v hv
          cases h
          obtain ⟨x, r, rfl, hx9, hSt9⟩ := hSt.int
          replace hSt := hSt9; clear hSt9
          obtain ⟨o, r, rfl, ho, hSt9⟩ := hSt.ref
          replace hSt := hSt9; clear hSt9
          obtain ⟨j, hj, rfl, hlen, hby⟩ := sx_bytq_at hq
          have ho : o = some (z (101 + 2 * j)) := ho.1 (by omega) (by omega)
          subst ho
          obtain ⟨i1, i2, i3⟩ := sx_ix_ok hk hx9
          obtain ⟨-, -, -, -, -, -, -, -, h9, -, -⟩ := hZ
          refine va_tb hx hb (h9.1 j hj).2.2.2 hS (by rw [← hlen]; exact i1) rfl hdg (K wl H locs hI hS ls lv _ hl hL ⟨?_, hSt⟩)
          rw [i2, hby k v hv]
          exact sx_RVi (sx_RNc _)
        · cases h
      · cases h
    · cases h
  · cases h
theorem sx_ialdx_ok (C : sx_CX p s m args meth c D cA z σ B A tb own mname cc nL) (hdg : decode cc pc = .ok (.iaload, 1))
    (h : sx_aldx sx_intq L S w nx = some (L', S', w', nx', dc, ds)) (K : sx_KM p l e R s m args below meth c Q D cA z σ Fr A nL (pc + 1) (cells + dc) (slots + ds) ρ L' S' w' nx') : sx_KM p l e R s m args below meth c Q D cA z σ Fr A nL pc cells slots ρ L S w nx := by
  intro wl H locs hI hS ls lv st hl hL hSt
  obtain ⟨hx, hb, hml, hts, hown, hK, hZ, hB, hA, hn⟩ := C
  obtain ⟨-, -, -, -, h5, -, h7, -, -, -, -⟩ := hZ
  unfold sx_aldx at h
  split at h
  · rename_i i q S0
    split at h
    · rename_i lq hq
      split at h
      · rename_i k hk
        split at h
        · rename_i v hv
          cases h
          obtain ⟨x, r, rfl, hx9, hSt9⟩ := hSt.int
          replace hSt := hSt9; clear hSt9
          obtain ⟨o, r, rfl, ho, hSt9⟩ := hSt.ref
          replace hSt := hSt9; clear hSt9
          obtain ⟨i1, i2, i3⟩ := sx_ix_ok hk hx9
          unfold sx_intq at hq
          split at hq
          · cases hq
            have ho : o = some (z 1) := ho.1 (by omega) (by omega)
            subst ho
            refine va_ti hx hb h5 hS i1 rfl hdg (K wl H locs hI hS ls lv _ hl hL ⟨?_, hSt⟩)
            rw [i2, List.getD_eq_getElem?_getD, hv]
            exact sx_RVi (sx_RNc _)
          · cases hq
            have ho : o = some (z 2) := ho.1 (by omega) (by omega)
            subst ho
            refine va_ti hx hb h7 hS i1 rfl hdg (K wl H locs hI hS ls lv _ hl hL ⟨?_, hSt⟩)
            rw [i2, List.getD_eq_getElem?_getD, hv]
            exact sx_RVi (sx_RNc _)
          · cases hq
        · cases h
      · cases h
    · cases h
  · cases h
theorem sx_alen_ok (C : sx_CX p s m args meth c D cA z σ B A tb own mname cc nL) (hdg : decode cc pc = .ok (.arraylength, 1))
    (h : sx_alen L S w nx = some (L', S', w', nx', dc, ds)) (K : sx_KM p l e R s m args below meth c Q D cA z σ Fr A nL (pc + 1) (cells + dc) (slots + ds) ρ L' S' w' nx') : sx_KM p l e R s m args below meth c Q D cA z σ Fr A nL pc cells slots ρ L S w nx := by
  intro wl H locs hI hS ls lv st hl hL hSt
  obtain ⟨hx, hb, hml, hts, hown, hK, hZ, hB, hA, hn⟩ := C
  obtain ⟨-, h2, -, -, h5, -, h7, -, h9, -, -⟩ := hZ
  have nat : ∀ n : Nat, sx_RV ρ z σ (sx_int (.ofNat n)) (.int (Int32.ofNat n)) := fun n => by rw [← Int32.ofInt_eq_ofNat]; exact sx_RVi (sx_RNc _)
  unfold sx_alen at h
  split at h
  · rename_i a S0
    split at h
    · rename_i t n zr u ha
      cases ht : Nat.blt t 13 with
      | false => rw [ht] at h; cases h
      | true =>
        rw [ht] at h
        cases h
        have t13 : t < 13 := Nat.le_of_ble_eq_true ht
        obtain ⟨o, r, rfl, ⟨ad, ho, rfl⟩, hSt9⟩ := hSt.ref
        replace hSt := hSt9; clear hSt9
        obtain ⟨k0, a', e', q1, q2, ⟨X, rfl, hX1, hX2⟩⟩ := hI.1 a _ ha
        cases ho.symm.trans q2
        have : ∃ ty, sx_tyF[t]? = some ty := ⟨sx_tyF[t]'(by show t < 13; exact t13), List.getElem?_eq_getElem _⟩
        obtain ⟨ty, hty⟩ := this
        exact va_alen hx hb hK hI.2.2.2.2.1 k0 t q1 (sx_tys_at hty) (v := Int32.ofNat n) (by rw [hX1]) hdg (K wl H locs hI hS ls lv _ hl hL ⟨nat n, hSt⟩)
    · cases h
  · rename_i q S0
    split at h
    · cases h
      obtain ⟨o, r, rfl, ho, hSt9⟩ := hSt.ref
      replace hSt := hSt9; clear hSt9
      have ho : o = some (z 0) := ho.1 (by omega) (by omega)
      subst ho
      exact va_tlen hx hb h2 hS (v := 0) rfl hdg (K wl H locs hI hS ls lv _ hl hL ⟨sx_RVi (sx_RNc 0), hSt⟩)
    · split at h
      · rename_i lq hq
        cases h
        obtain ⟨o, r, rfl, ho, hSt9⟩ := hSt.ref
        replace hSt := hSt9; clear hSt9
        cases h1 : sx_intq q with
        | some x =>
          rw [h1] at hq
          cases hq
          unfold sx_intq at h1
          split at h1
          · cases h1
            have ho : o = some (z 1) := ho.1 (by omega) (by omega)
            subst ho
            exact va_tlen hx hb h5 hS rfl hdg (K wl H locs hI hS ls lv _ hl hL ⟨nat _, hSt⟩)
          · cases h1
            have ho : o = some (z 2) := ho.1 (by omega) (by omega)
            subst ho
            exact va_tlen hx hb h7 hS rfl hdg (K wl H locs hI hS ls lv _ hl hL ⟨nat _, hSt⟩)
          · cases h1
        | none =>
          rw [h1] at hq
          obtain ⟨j, hj, rfl, hlen, -⟩ := sx_bytq_at hq
          have ho : o = some (z (101 + 2 * j)) := ho.1 (by omega) (by omega)
          subst ho
          exact va_tlen hx hb (h9.1 j hj).2.2.2 hS (v := Int32.ofNat lq.length) (by rw [hlen]) hdg (K wl H locs hI hS ls lv _ hl hL ⟨nat _, hSt⟩)
      · cases h
  · cases h
/-- a value put into a row of ints -/
theorem sx_RA.put {ρ : Nat → Option Nat} {u : List (Nat × sx_V)} {zr : Bool} {d : Value} {g g' : Nat → Value} (h : sx_RA ρ z σ u zr d g) {k : Nat} {v : sx_V} (hv : sx_RV ρ z σ v (g' k)) (ho : ∀ j, j ≠ k → g' j = g j) : sx_RA ρ z σ (sx_put u k v) zr d g' := by
  intro j
  rw [sx_lk_put]
  by_cases hj : j = k
  · rw [if_pos hj, hj]; exact hv
  · rw [if_neg hj, ho j hj]
    exact h j
theorem sx_ast_ok (C : sx_CX p s m args meth c D cA z σ B A tb own mname cc nL) {tk : Nat → Option Nat} (htk : ∀ t ft, tk t = some ft → t < 4 ∧ ∃ ty, sx_tyF[t]? = some ty ∧ sx_code ty = ft) {d : Nat}
    (rule : ∀ {t ft : Nat} {wl : va_W} {H : Heap} {locs : List Loc} {q0 a n : Nat} {f : Nat → Int32} {i x : Int32} {ls : Array Slot} {r : List Value}, tk t = some ft → va_P D vwCl wl H → va_D A wl → va_S A s.heap H locs → wl[q0]? = some (a, .inl (cA t, n, .inl f)) → vp_in i n → (∀ ty, sx_code ty = ft → narrow ty (.int x) = .int x) →
      (∀ (H1 : Heap) (locs1 : List Loc), va_P D vwCl (wl.set q0 (a, .inl (cA t, n, .inl (upd f i.toNatClampNeg x)))) H1 → va_D A (wl.set q0 (a, .inl (cA t, n, .inl (upd f i.toNatClampNeg x)))) → va_S A s.heap H1 locs1 → W p l e R s m args below meth c H1 locs1 cells slots Q (F0 m (pc + d) ls r)) → W p l e R s m args below meth c H locs cells slots Q (F0 m pc ls (.int x :: .int i :: .ref a :: r)))
    (h : sx_ast B tk L S w nx = some (L', S', w', nx', dc, ds)) (K : sx_KM p l e R s m args below meth c Q D cA z σ Fr A nL (pc + d) (cells + dc) (slots + ds) ρ L' S' w' nx') : sx_KM p l e R s m args below meth c Q D cA z σ Fr A nL pc cells slots ρ L S w nx := by
  intro wl H locs hI hS ls lv st hl hL hSt
  unfold sx_ast at h
  split at h
  · rename_i v i a S0
    split at h
    · rename_i t n zr u ha
      split at h
      · rename_i ft hft
        cases hf : sx_fit B ft v with
        | false => rw [hf] at h; cases h
        | true =>
          rw [hf] at h
          simp only [cond_true] at h
          split at h
          · rename_i k hk
            cases h
            obtain ⟨t4, ty0, hty0, hcode⟩ := htk t ft hft
            obtain ⟨xv, r, rfl, hv, hSt9⟩ := hSt.cons
            replace hSt := hSt9; clear hSt9
            obtain ⟨x, r, rfl, hx, hSt9⟩ := hSt.int
            replace hSt := hSt9; clear hSt9
            obtain ⟨o, r, rfl, ⟨ad, ho, rfl⟩, hSt9⟩ := hSt.ref
            replace hSt := hSt9; clear hSt9
            obtain ⟨k0, a', e', q1, q2, ⟨X, rfl, hX1, hX2⟩⟩ := hI.1 a _ ha
            cases ho.symm.trans q2
            obtain ⟨n', X⟩ := X
            cases (show n' = n from hX1)
            obtain ⟨i1, i2, i3⟩ := sx_ix_ok hk hx
            have hnar := fun ty (hc : sx_code ty = ft) => (sx_fit_ok C.2.2.2.2.2.2.2.1 hf hv hc).1
            have isint : ∃ y, xv = .int y := by
              match v, hv with
              | .inl nn, ⟨y, e1, _⟩ => exact ⟨y, e1⟩
              | .inr (.inl ee), _ =>
                have := Nat.eq_of_beq_eq_true (show Nat.beq ft 4 = true from hf)
                subst this
                have h7 : ∀ i : Fin 4, ∀ ty, sx_tyF[i.val]? = some ty → sx_code ty ≠ 4 := by decide +kernel
                exact absurd hcode (h7 ⟨t, t4⟩ ty0 hty0)
              | .inr (.inr rr), _ =>
                have := Nat.eq_of_beq_eq_true (show Nat.beq ft 5 = true from hf)
                subst this
                have h7 : ∀ i : Fin 4, ∀ ty, sx_tyF[i.val]? = some ty → sx_code ty ≠ 5 := by decide +kernel
                exact absurd hcode (h7 ⟨t, t4⟩ ty0 hty0)
            obtain ⟨y, rfl⟩ := isint
            match X, hX2 with
            | .inl f, hX2 =>
              refine rule hft hI.2.2.2.2.1 hI.2.2.2.2.2 hS q1 i1 hnar (fun H1 locs1 hP1 hD1 hS1 => ?_)
              rw [i2] at hP1 hD1
              refine K _ H1 locs1 (hI.set ho q1 ⟨(n, .inl (upd f k y)), rfl, rfl, hX2.1, hX2.2.put (by simp [upd]; exact hv) (fun j hj => by simp [upd, hj])⟩ hP1 hD1) hS1 ls lv _ hl hL hSt
            | .inr (.inl f), hX2 => exact absurd hX2.1 (by omega)
            | .inr (.inr (.inl f)), hX2 => exact hX2.elim
            | .inr (.inr (.inr (.inl f))), hX2 => exact hX2.elim
            | .inr (.inr (.inr (.inr f))), hX2 => exact absurd hX2.1 (by omega)
          · cases h
      · cases h
    · cases h
  · cases h
end SXA
