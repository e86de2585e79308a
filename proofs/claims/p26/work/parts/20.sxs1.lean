section SXD
variable {p : Program} {l : Launch} {e : Env} {R : Room} {s : State} {m : MethodId} {args : Array Value} {below : List Frame} {meth : Method} {c : Code} {Q : State → Prop}
variable {D : va_G} {cA : Nat → ClassId} {z : Nat → Nat} {σ : Nat → Int} {B : sx_Bs} {Fr : va_W} {A : Nat → Prop} {tbs : List (List Cond)} {tb : List Cond} {own mname : String} {cc : ByteArray} {nL pc cells slots : Nat}
variable {ρ : Nat → Option Nat} {L L' : List (Nat × sx_V)} {S S' : List sx_V} {w w' : sx_W} {nx nx' dc ds : Nat} {P : Nat → Option sx_M}
theorem sx_asl_ok (C : sx_CX p s m args meth c D cA z σ B A tb own mname cc nL) (hdg : decode cc pc = .ok (.lastore, 1))
    (h : sx_asl B L S w nx = some (L', S', w', nx', dc, ds)) (K : sx_KM p l e R s m args below meth c Q D cA z σ Fr A nL (pc + 1) (cells + dc) (slots + ds) ρ L' S' w' nx') : sx_KM p l e R s m args below meth c Q D cA z σ Fr A nL pc cells slots ρ L S w nx := by
  intro wl H locs hI hS ls lv st hl hL hSt
  obtain ⟨hx, hb, hml, hts, hown, hK, hZ, hB, hA, hn⟩ := C
  unfold sx_asl at h
  split at h
  · rename_i v i a S0
    split at h
    · rename_i t n zr u ha
      cases ht : Nat.beq t 4 with
      | false => simp only [ht] at h; cases h
      | true =>
        have e4 := Nat.eq_of_beq_eq_true ht
        subst e4
        simp only [show Nat.beq 4 4 = true from rfl, cond_true] at h
        split at h
        · rename_i k hk
          cases h
          obtain ⟨y, r, rfl, hv, hSt9⟩ := hSt.long
          replace hSt := hSt9; clear hSt9
          obtain ⟨x, r, rfl, hx9, hSt9⟩ := hSt.int
          replace hSt := hSt9; clear hSt9
          obtain ⟨o, r, rfl, ⟨ad, ho, rfl⟩, hSt9⟩ := hSt.ref
          replace hSt := hSt9; clear hSt9
          obtain ⟨k0, a', e', q1, q2, ⟨X, rfl, hX1, hX2⟩⟩ := hI.1 a _ ha
          cases ho.symm.trans q2
          obtain ⟨n', X⟩ := X
          cases (show n' = n from hX1)
          obtain ⟨i1, i2, i3⟩ := sx_ix_ok hk hx9
          match X, hX2 with
          | .inl f, hX2 => exact absurd hX2.1 (by omega)
          | .inr (.inl f), hX2 =>
            refine va_last hx hb hK hI.2.2.2.2.1 hI.2.2.2.2.2 hS k0 4 q1 (sx_tys_at rfl) i1 hdg (fun H1 locs1 hP1 hD1 hS1 => ?_)
            rw [i2] at hP1 hD1
            exact K _ H1 locs1 (hI.set ho q1 ⟨(n, .inr (.inl (vp_updL f k y))), rfl, rfl, rfl, hX2.2.put (by simp [vp_updL]; exact sx_RVl hv) (fun j hj => by simp [vp_updL, hj])⟩ hP1 hD1) hS1 ls lv _ hl hL hSt
          | .inr (.inr (.inl f)), hX2 => exact hX2.elim
          | .inr (.inr (.inr (.inl f))), hX2 => exact hX2.elim
          | .inr (.inr (.inr (.inr f))), hX2 => exact absurd hX2.1 (by omega)
        · cases h
    · cases h
  · cases h
theorem sx_or_some {α : Type} {a b : Option α} {x : α} (h : sx_or a b = some x) : a = some x ∨ b = some x := by
  unfold sx_or at h
  split at h
  · exact Or.inl h
  · exact Or.inr h
theorem sx_fallD {M : sx_M} {r pc0 len : Nat} {ins : Instr} {aux : List Nat} {cst : Int} (h : (decide (decode M.2.1 pc0 = .ok (ins, len)) && sx_fall M r (pc0, ins, len, aux, cst)) = true) : decode M.2.1 pc0 = .ok (ins, sx_ilen ins) ∧ sx_rpc M (r + 1) = pc0 + sx_ilen ins := by
  unfold sx_fall at h
  rw [Bool.and_eq_true, Bool.and_eq_true] at h
  have e1 := of_decide_eq_true h.1
  have e2 : len = sx_ilen ins := Nat.eq_of_beq_eq_true h.2.1
  have e3 : sx_rpc M (r + 1) = pc0 + len := Nat.eq_of_beq_eq_true h.2.2
  rw [e2] at e1 e3
  exact ⟨e1, e3⟩
theorem sx_fallA {M : sx_M} {r pc0 len : Nat} {ins : Instr} {aux : List Nat} {cst : Int} {o : Bool} (h : (decide (decode M.2.1 pc0 = .ok (ins, len)) && (sx_fall M r (pc0, ins, len, aux, cst) && (aux.isEmpty || o))) = true) : decode M.2.1 pc0 = .ok (ins, sx_ilen ins) ∧ sx_rpc M (r + 1) = pc0 + sx_ilen ins ∧ (aux = [] ∨ o = true) := by
  rw [Bool.and_eq_true, Bool.and_eq_true, Bool.or_eq_true] at h
  obtain ⟨a, b⟩ := sx_fallD (show (decide (decode M.2.1 pc0 = .ok (ins, len)) && sx_fall M r (pc0, ins, len, aux, cst)) = true by rw [Bool.and_eq_true]; exact ⟨h.1, h.2.1⟩)
  refine ⟨a, b, ?_⟩
  rcases h.2.2 with q | q
  · exact Or.inl (List.isEmpty_iff.mp q)
  · exact Or.inr q
set_option maxHeartbeats 8000000 in
theorem sx_mem_ok {M : sx_M} (C : sx_CX p s m args meth c D cA z σ B A tb M.1.cls M.1.name M.2.1 nL) (htb : sx_tbOK tbs tb) (hcl : ∀ ci, sx_clOK tb ci) {r pc0 len : Nat} {ins : Instr} {aux : List Nat} {cst : Int} (hok : sx_okR P tbs M r (pc0, ins, len, aux, cst) = true)
    (h : sx_mem B ins aux cst L S w nx = some (L', S', w', nx', dc, ds)) (hc : cells + dc ≤ R.cells) (hs : slots + ds ≤ R.slots) (K : ∀ ρ', sx_ge ρ ρ' → sx_KM p l e R s m args below meth c Q D cA z σ Fr A nL (sx_rpc M (r + 1)) (cells + dc) (slots + ds) ρ' L' S' w' nx') : sx_KM p l e R s m args below meth c Q D cA z σ Fr A nL pc0 cells slots ρ L S w nx := by
  have C9 := C
  obtain ⟨hx, hb, hml, hts, hown, hK, hZ, hB, hA, hn⟩ := C9
  unfold sx_mem at h
  split at h
  · obtain ⟨hd, hr⟩ := sx_fallD (show (decide (decode M.2.1 pc0 = .ok (.iaload, len)) && sx_fall M r (pc0, .iaload, len, aux, cst)) = true from hok)
    rw [hr] at K
    rcases sx_or_some h with h | h
    · exact sx_ald_ok C (d := 1) (fun t q => by have := Nat.eq_of_beq_eq_true q; omega) (fun ht hP ha hin k => by have e0 := Nat.eq_of_beq_eq_true ht; subst e0; exact va_iald hx hb hK hP _ 0 ha (sx_tys_at rfl) hin hd k) h (K ρ (sx_ge_rf ρ))
    · exact sx_ialdx_ok C hd h (K ρ (sx_ge_rf ρ))
  · obtain ⟨hd, hr⟩ := sx_fallD (show (decide (decode M.2.1 pc0 = .ok (.baload, len)) && sx_fall M r (pc0, .baload, len, aux, cst)) = true from hok)
    rw [hr] at K
    rcases sx_or_some h with h | h
    · refine sx_ald_ok C (d := 1) (fun t q => ?_) (fun {t} _ _ _ _ _ _ _ _ _ _ ht hP ha hin k => ?_) h (K ρ (sx_ge_rf ρ))
      · rw [Bool.or_eq_true] at q
        rcases q with q | q <;> (have := Nat.eq_of_beq_eq_true q; omega)
      · rw [Bool.or_eq_true] at ht
        rcases ht with q | q
        · have e0 := Nat.eq_of_beq_eq_true q; subst e0; exact va_bald hx hb hK hP _ 1 ha (sx_tys_at rfl) hin hd k
        · have e0 := Nat.eq_of_beq_eq_true q; subst e0; exact va_zald hx hb hK hP _ 2 ha (sx_tys_at rfl) hin hd k
    · exact sx_baldx_ok C hd h (K ρ (sx_ge_rf ρ))
  · obtain ⟨hd, hr⟩ := sx_fallD (show (decide (decode M.2.1 pc0 = .ok (.caload, len)) && sx_fall M r (pc0, .caload, len, aux, cst)) = true from hok)
    rw [hr] at K
    exact sx_ald_ok C (d := 1) (fun t q => by have := Nat.eq_of_beq_eq_true q; omega) (fun ht hP ha hin k => by have e0 := Nat.eq_of_beq_eq_true ht; subst e0; exact va_cald hx hb hK hP _ 3 ha (sx_tys_at rfl) hin hd k) h (K ρ (sx_ge_rf ρ))
  · obtain ⟨hd, hr⟩ := sx_fallD (show (decide (decode M.2.1 pc0 = .ok (.laload, len)) && sx_fall M r (pc0, .laload, len, aux, cst)) = true from hok)
    rw [hr] at K
    exact sx_lald_ok C hd h (K ρ (sx_ge_rf ρ))
  · obtain ⟨hd, hr⟩ := sx_fallD (show (decide (decode M.2.1 pc0 = .ok (.aaload, len)) && sx_fall M r (pc0, .aaload, len, aux, cst)) = true from hok)
    rw [hr] at K
    exact sx_aald_ok C hd h (K ρ (sx_ge_rf ρ))
  · obtain ⟨hd, hr⟩ := sx_fallD (show (decide (decode M.2.1 pc0 = .ok (.arraylength, len)) && sx_fall M r (pc0, .arraylength, len, aux, cst)) = true from hok)
    rw [hr] at K
    exact sx_alen_ok C hd h (K ρ (sx_ge_rf ρ))
  · obtain ⟨hd, hr⟩ := sx_fallD (show (decide (decode M.2.1 pc0 = .ok (.iastore, len)) && sx_fall M r (pc0, .iastore, len, aux, cst)) = true from hok)
    rw [hr] at K
    have tk0 : ∀ {t ft : Nat}, (bif Nat.beq t 0 then some 0 else none : Option Nat) = some ft → t = 0 ∧ ft = 0 := fun {t ft} q => by
      cases hq : Nat.beq t 0 with
      | true => rw [hq] at q; cases q; exact ⟨Nat.eq_of_beq_eq_true hq, rfl⟩
      | false => rw [hq] at q; cases q
    refine sx_ast_ok C (d := 1) (fun t ft q => ?_) (fun {t ft} _ _ _ _ _ _ _ _ _ _ _ ht hP hD hS ha hin hnar k => ?_) h (K ρ (sx_ge_rf ρ))
    · obtain ⟨rfl, rfl⟩ := tk0 q; exact ⟨by omega, .int, rfl, rfl⟩
    · obtain ⟨rfl, rfl⟩ := tk0 ht; exact va_iast hx hb hK hP hD hS _ 0 ha (sx_tys_at rfl) hin hd k
  · obtain ⟨hd, hr⟩ := sx_fallD (show (decide (decode M.2.1 pc0 = .ok (.bastore, len)) && sx_fall M r (pc0, .bastore, len, aux, cst)) = true from hok)
    rw [hr] at K
    have tk0 : ∀ {t ft : Nat}, sx_bkt t = some ft → (t = 1 ∧ ft = 2) ∨ (t = 2 ∧ ft = 1) := fun {t ft} q => by
      unfold sx_bkt at q
      split at q
      · cases q; exact Or.inl ⟨rfl, rfl⟩
      · cases q; exact Or.inr ⟨rfl, rfl⟩
      · cases q
    refine sx_ast_ok C (d := 1) (fun t ft q => ?_) (fun {t ft} _ _ _ _ _ _ _ _ x _ _ ht hP hD hS ha hin hnar k => ?_) h (K ρ (sx_ge_rf ρ))
    · rcases tk0 q with ⟨rfl, rfl⟩ | ⟨rfl, rfl⟩
      · exact ⟨by omega, .byte, rfl, rfl⟩
      · exact ⟨by omega, .boolean, rfl, rfl⟩
    · rcases tk0 ht with ⟨rfl, rfl⟩ | ⟨rfl, rfl⟩
      · have hv : vp_nar .byte x = x := by unfold vp_nar; rw [hnar .byte rfl]
        exact va_bast hx hb hK hP hD hS _ 1 ha (sx_tys_at rfl) hin hd (by rw [hv]; exact k)
      · have hv : vp_nar .boolean x = x := by unfold vp_nar; rw [hnar .boolean rfl]
        exact va_zast hx hb hK hP hD hS _ 2 ha (sx_tys_at rfl) hin hd (by rw [hv]; exact k)
  · obtain ⟨hd, hr⟩ := sx_fallD (show (decide (decode M.2.1 pc0 = .ok (.castore, len)) && sx_fall M r (pc0, .castore, len, aux, cst)) = true from hok)
    rw [hr] at K
    have tk0 : ∀ {t ft : Nat}, (bif Nat.beq t 3 then some 3 else none : Option Nat) = some ft → t = 3 ∧ ft = 3 := fun {t ft} q => by
      cases hq : Nat.beq t 3 with
      | true => rw [hq] at q; cases q; exact ⟨Nat.eq_of_beq_eq_true hq, rfl⟩
      | false => rw [hq] at q; cases q
    refine sx_ast_ok C (d := 1) (fun t ft q => ?_) (fun {t ft} _ _ _ _ _ _ _ _ x _ _ ht hP hD hS ha hin hnar k => ?_) h (K ρ (sx_ge_rf ρ))
    · obtain ⟨rfl, rfl⟩ := tk0 q; exact ⟨by omega, .char, rfl, rfl⟩
    · obtain ⟨rfl, rfl⟩ := tk0 ht
      have hv : vp_nar .char x = x := by unfold vp_nar; rw [hnar .char rfl]
      exact va_cast hx hb hK hP hD hS _ 3 ha (sx_tys_at rfl) hin hd (by rw [hv]; exact k)
  · obtain ⟨hd, hr⟩ := sx_fallD (show (decide (decode M.2.1 pc0 = .ok (.lastore, len)) && sx_fall M r (pc0, .lastore, len, aux, cst)) = true from hok)
    rw [hr] at K
    exact sx_asl_ok C hd h (K ρ (sx_ge_rf ρ))
  · obtain ⟨hd, hr⟩ := sx_fallD (show (decide (decode M.2.1 pc0 = .ok (.aastore, len)) && sx_fall M r (pc0, .aastore, len, aux, cst)) = true from hok)
    rw [hr] at K
    exact sx_asq_ok C hd h (K ρ (sx_ge_rf ρ))
  · rename_i idx
    obtain ⟨hd, hr, ho⟩ := sx_fallA (show (decide (decode M.2.1 pc0 = .ok (.getfield idx, len)) && (sx_fall M r (pc0, .getfield idx, len, aux, cst) && (aux.isEmpty || sx_okgetf tbs M.1.cls idx aux))) = true from hok)
    rw [hr] at K
    rcases ho with rfl | ho
    · cases h
    · exact sx_getf_ok C htb hcl hd ho h (K ρ (sx_ge_rf ρ))
  · rename_i idx
    obtain ⟨hd, hr, ho⟩ := sx_fallA (show (decide (decode M.2.1 pc0 = .ok (.putfield idx, len)) && (sx_fall M r (pc0, .putfield idx, len, aux, cst) && (aux.isEmpty || sx_okputf tbs M.1.cls M.1.name idx aux))) = true from hok)
    rw [hr] at K
    rcases ho with rfl | ho
    · cases h
    · exact sx_putf_ok C htb hcl hd ho h (K ρ (sx_ge_rf ρ))
  · rename_i idx
    obtain ⟨hd, hr, ho⟩ := sx_fallA (show (decide (decode M.2.1 pc0 = .ok (.new idx, len)) && (sx_fall M r (pc0, .new idx, len, aux, cst) && (aux.isEmpty || sx_oknew tbs M.1.cls idx aux))) = true from hok)
    rw [hr] at K
    rcases ho with rfl | ho
    · cases h
    · exact sx_new_ok C htb hcl hd ho h hc hs K
  · rename_i a
    obtain ⟨hd, hr, ho⟩ := sx_fallA (show (decide (decode M.2.1 pc0 = .ok (.newarray a, len)) && (sx_fall M r (pc0, .newarray a, len, aux, cst) && (aux.isEmpty || sx_oknewa tbs a aux))) = true from hok)
    rw [hr] at K
    rcases ho with rfl | ho
    · cases h
    · exact sx_newa_ok C htb hd ho h hc hs K
  · rename_i idx
    obtain ⟨hd, hr, ho⟩ := sx_fallA (show (decide (decode M.2.1 pc0 = .ok (.anewarray idx, len)) && (sx_fall M r (pc0, .anewarray idx, len, aux, cst) && (aux.isEmpty || sx_oknewq tbs M.1.cls idx aux))) = true from hok)
    rw [hr] at K
    rcases ho with rfl | ho
    · cases h
    · exact sx_newq_ok C htb hd ho h hc hs K
  · rename_i idx
    obtain ⟨hd, hr, ho⟩ := sx_fallA (show (decide (decode M.2.1 pc0 = .ok (.checkcast idx, len)) && (sx_fall M r (pc0, .checkcast idx, len, aux, cst) && (aux.isEmpty || sx_okcast tbs M.1.cls idx aux))) = true from hok)
    rw [hr] at K
    rcases ho with rfl | ho
    · cases h
    · exact sx_ccast_ok C htb hd ho h (K ρ (sx_ge_rf ρ))
  · rename_i idx
    obtain ⟨hd, hr, ho⟩ := sx_fallA (show (decide (decode M.2.1 pc0 = .ok (.instanceof idx, len)) && (sx_fall M r (pc0, .instanceof idx, len, aux, cst) && (aux.isEmpty || sx_okcast tbs M.1.cls idx aux))) = true from hok)
    rw [hr] at K
    rcases ho with rfl | ho
    · cases h
    · exact sx_inst_ok C htb hd ho h (K ρ (sx_ge_rf ρ))
  · rename_i idx
    obtain ⟨hd, hr, ho⟩ := sx_fallA (show (decide (decode M.2.1 pc0 = .ok (.ldc idx, len)) && (sx_fall M r (pc0, .ldc idx, len, aux, cst) && (aux.isEmpty || sx_okldc tbs M.1.cls false idx aux cst))) = true from hok)
    rw [hr] at K
    rcases ho with rfl | ho
    · cases h
    · exact sx_ldc_ok C htb (Or.inl ⟨rfl, hd, ho⟩) h (K ρ (sx_ge_rf ρ))
  · rename_i idx
    obtain ⟨hd, hr, ho⟩ := sx_fallA (show (decide (decode M.2.1 pc0 = .ok (.ldc_w idx, len)) && (sx_fall M r (pc0, .ldc_w idx, len, aux, cst) && (aux.isEmpty || sx_okldc tbs M.1.cls false idx aux cst))) = true from hok)
    rw [hr] at K
    rcases ho with rfl | ho
    · cases h
    · exact sx_ldc_ok C htb (Or.inr (Or.inl ⟨rfl, hd, ho⟩)) h (K ρ (sx_ge_rf ρ))
  · rename_i idx
    obtain ⟨hd, hr, ho⟩ := sx_fallA (show (decide (decode M.2.1 pc0 = .ok (.ldc2_w idx, len)) && (sx_fall M r (pc0, .ldc2_w idx, len, aux, cst) && (aux.isEmpty || sx_okldc tbs M.1.cls true idx aux cst))) = true from hok)
    rw [hr] at K
    rcases ho with rfl | ho
    · cases h
    · exact sx_ldc_ok C htb (Or.inr (Or.inr ⟨rfl, hd, ho⟩)) h (K ρ (sx_ge_rf ρ))
  · rename_i idx
    obtain ⟨hd, hr, ho⟩ := sx_fallA (show (decide (decode M.2.1 pc0 = .ok (.getstatic idx, len)) && (sx_fall M r (pc0, .getstatic idx, len, aux, cst) && (aux.isEmpty || sx_okgets tbs M.1.cls idx aux))) = true from hok)
    rw [hr] at K
    rcases ho with rfl | ho
    · cases h
    · exact sx_gets_ok C htb hd ho h (K ρ (sx_ge_rf ρ))
  · cases h
/-! switches -/
theorem sx_oktgs_at {M : sx_M} {pc : Nat} : ∀ {os : List Int} {rs : List Nat} {j r : Nat}, sx_oktgs M pc os rs = true → rs[j]? = some r → ∃ o, os[j]? = some o ∧ (pc : Int) + o = ((sx_rpc M r : Nat) : Int)
  | [], [], _, _, _, h => nomatch h
  | o :: os, r0 :: rs, 0, r, h, hj => by
    cases hj
    unfold sx_oktgs at h
    rw [Bool.and_eq_true] at h
    exact ⟨o, rfl, (sx_eq_iff _ _).mp h.1⟩
  | o :: os, r0 :: rs, j + 1, r, h, hj => by
    unfold sx_oktgs at h
    rw [Bool.and_eq_true] at h
    exact sx_oktgs_at (j := j) h.2 hj
  | [], _ :: _, _, _, h, _ => by cases h
  | _ :: _, [], _, _, h, _ => by cases h
theorem sx_lsw_ok {M : sx_M} {pc rd : Nat} {d x : Int} (hd : (pc : Int) + d = ((sx_rpc M rd : Nat) : Int)) : ∀ {ps : List (Int × Int)} {rs : List Nat}, sx_oktgs M pc (ps.map Prod.snd) rs = true → (pc : Int) + Op.lookupswitch.offset ps d x = ((sx_rpc M (sx_lsw ps rs rd x) : Nat) : Int)
  | [], [], _ => hd
  | a :: ps, r :: rs, h => by
    have h : (sx_eq ((pc : Int) + a.2) ((sx_rpc M r : Nat) : Int) && sx_oktgs M pc (ps.map Prod.snd) rs) = true := h
    rw [Bool.and_eq_true] at h
    obtain ⟨a1, a2⟩ := a
    rw [Op.lookupswitch.offset_cons]
    show _ = ((sx_rpc M (bif sx_eq a1 x then r else sx_lsw ps rs rd x) : Nat) : Int)
    cases hq : sx_eq a1 x with
    | true => rw [if_pos ((sx_eq_iff _ _).mp hq)]; exact (sx_eq_iff _ _).mp h.1
    | false =>
      rw [if_neg (fun q => by rw [(sx_eq_iff _ _).mpr q] at hq; cases hq)]
      exact sx_lsw_ok hd h.2
  | [], _ :: _, h => by cases h
  | _ :: _, [], h => by cases h
theorem sx_swi_ok {M : sx_M} (C : sx_CX p s m args meth c D cA z σ B A tb M.1.cls M.1.name M.2.1 nL) {r pc0 len : Nat} {ins : Instr} {aux : List Nat} {cst : Int} (hok : sx_okR P tbs M r (pc0, ins, len, aux, cst) = true) {r' : Nat}
    (h : sx_swi ins aux S = some (S', r')) (K : sx_KM p l e R s m args below meth c Q D cA z σ Fr A nL (sx_rpc M r') cells slots ρ L S' w nx) : sx_KM p l e R s m args below meth c Q D cA z σ Fr A nL pc0 cells slots ρ L S w nx := by
  intro wl H locs hI hS ls lv st hl hL hSt
  obtain ⟨hx, hb, hml, hts, hown, hK, hZ, hB, hA, hn⟩ := C
  unfold sx_swi at h
  split at h
  · rename_i x S0
    cases hr : (sx_le (-2147483648) x && sx_le x 2147483647) with
    | false => simp only [hr] at h; cases h
    | true =>
      simp only [hr, cond_true] at h
      rw [Bool.and_eq_true, sx_le_iff, sx_le_iff] at hr
      obtain ⟨y, q, rfl, hy, hSt9⟩ := hSt.int
      replace hSt := hSt9; clear hSt9
      have hy : y = Int32.ofInt (sx_ev σ (sx_c x)) := hy
      rw [sx_ev_c] at hy
      have ty : y.toInt = x := by rw [hy]; exact Int32.toInt_ofInt_of_le (by omega) (by omega)
      split at h
      · rename_i d lo hi offs r0 rs
        have hok : (decide (decode M.2.1 pc0 = .ok (.tableswitch d lo hi offs, len)) && (sx_oktgs M pc0 (d :: offs.toList) (r0 :: rs) && sx_le (-2147483648) lo && sx_le hi 2147483647)) = true := hok
        rw [Bool.and_eq_true, Bool.and_eq_true, Bool.and_eq_true] at hok
        obtain ⟨hd, ⟨ht, -⟩, -⟩ := hok
        have hd := of_decide_eq_true hd
        cases hi9 : (sx_le lo x && sx_le x hi) with
        | true =>
          simp only [hi9, cond_true] at h
          rw [Bool.and_eq_true, sx_le_iff, sx_le_iff] at hi9
          split at h
          · rename_i r1 hr1
            cases h
            obtain ⟨o, ho, hpc⟩ := sx_oktgs_at (j := (x - lo).toNat + 1) ht hr1
            exact lv_tableIn hx hb hd (by rw [ty]; omega) (by rw [ty]; omega) (by rw [ty]; rw [← Array.getElem?_toList]; exact ho) hpc (K wl H locs hI hS ls lv _ hl hL hSt)
          · cases h
        | false =>
          simp only [hi9, cond_false] at h
          cases h
          obtain ⟨o, ho, hpc⟩ := sx_oktgs_at (j := 0) (r := r') ht rfl
          cases ho
          refine lv_tableOut hx hb hd ?_ hpc (K wl H locs hI hS ls lv _ hl hL hSt)
          rw [ty]
          have : ¬ (lo ≤ x ∧ x ≤ hi) := fun q => by
            rw [(sx_le_iff _ _).mpr q.1, (sx_le_iff _ _).mpr q.2] at hi9
            cases hi9
          omega
      · rename_i d ps r0 rs
        cases h
        have hok : (decide (decode M.2.1 pc0 = .ok (.lookupswitch d ps, len)) && (sx_oktgs M pc0 (d :: ps.toList.map Prod.snd) (r0 :: rs) && (ps.toList.zip (ps.toList.drop 1)).all (fun (a, next) => a.1 < next.1))) = true := hok
        rw [Bool.and_eq_true, Bool.and_eq_true] at hok
        obtain ⟨hd, ht, hs9⟩ := hok
        have hd := of_decide_eq_true hd
        have ht : (sx_eq ((pc0 : Int) + d) ((sx_rpc M r0 : Nat) : Int) && sx_oktgs M pc0 (ps.toList.map Prod.snd) rs) = true := ht
        rw [Bool.and_eq_true] at ht
        exact lv_lookup hx hb hd hs9 rfl (by rw [ty]; exact sx_lsw_ok ((sx_eq_iff _ _).mp ht.1) ht.2) (K wl H locs hI hS ls lv _ hl hL hSt)
      · cases h
  · cases h
end SXD
