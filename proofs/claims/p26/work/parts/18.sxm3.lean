theorem sk_ldcwString {p : Program} {l : Launch} {e : Env} {R : Room} {s : State} {m : MethodId} {args : Array Value} {below : List Frame} {meth : Method} {c : Code} {T : State} {locs : List Loc} {cells slots : Nat}
    (X : Stand p l e R s m args below meth c T locs cells slots) (hexec : p.tables.exec = Jvm.exec) {own text : String} {index : Nat} {a : Addr} (hown : s.vm.findClass own = some m.cls)
    (hconst : (Cond.stringRef own index text).before args s = true) (hev : (Term.string own index).eval args s none [] s = some (.ref a)) {g : JFrame} (hg : g.method = m) (hdg : decode c.code g.pc = .ok (.ldc_w index, 3)) :
    ∀ target, Steps p.tables e below (T.setTop { g with pc := g.pc + 3, stack := .ref a :: g.stack }) target → Steps p.tables e below (T.setTop g) target := by
  obtain ⟨k, cf, i, a', hk, hcf, hcp, -, hr, hev'⟩ := Cond.stringRef_spec hown hconst
  cases hev.symm.trans hev'
  obtain ⟨k', hk', he⟩ := X.warmed.alike.2.2 _ _ hk
  have hr' : k'.resolved[index]? = some (some (.string a)) := by
    rcases X.warmed.entry hk hk' index with h | ⟨h, -⟩
    · rw [h]; exact hr
    · rw [hr] at h; cases h
  intro target hrest
  subst hg
  jvm_step X.here [hexec, hdg, ldc_w.wp_string (e := e) (s := T) (f := g) X.here.top hk' (by rw [he]; exact hcf) hcp hr']
  exact hrest
theorem va_ldcwS {p : Program} {l : Launch} {e : Env} {R : Room} {s : State} {m : MethodId} {args : Array Value} {below : List Frame} {meth : Method} {c : Code} {H : Heap} {locs : List Loc} {cells slots : Nat} {Q : State → Prop} {cc : ByteArray} {pc : Nat} {ls : Array Slot} {rest : List Value}
    (hexec : p.tables.exec = Jvm.exec) (hb : c.code = cc) {own tx : String} {index q : Nat} (hown : s.vm.findClass own = some m.cls) (hZ : vk_R own index tx q s) (hdg : decode cc pc = .ok (.ldc_w index, 3))
    (k : W p l e R s m args below meth c H locs cells slots Q (F0 m (pc + 3) ls (.ref q :: rest))) : W p l e R s m args below meth c H locs cells slots Q (F0 m pc ls rest) := by
  intro T hT X
  obtain ⟨t, a1, b1⟩ := k T hT X
  exact ⟨t, sk_ldcwString X hexec hown (text := tx) (a := q) hZ.1 hZ.2 (g := F0 m pc ls rest) rfl (by rw [hb]; exact hdg) t a1, b1⟩
section SXC
variable {p : Program} {l : Launch} {e : Env} {R : Room} {s : State} {m : MethodId} {args : Array Value} {below : List Frame} {meth : Method} {c : Code} {Q : State → Prop}
variable {D : va_G} {cA : Nat → ClassId} {z : Nat → Nat} {σ : Nat → Int} {B : sx_Bs} {Fr : va_W} {A : Nat → Prop} {tbs : List (List Cond)} {tb : List Cond} {own mname : String} {cc : ByteArray} {nL pc cells slots : Nat}
variable {ρ : Nat → Option Nat} {L L' : List (Nat × sx_V)} {S S' : List sx_V} {w w' : sx_W} {nx nx' dc ds : Nat}
/-! casts: to the object's own class -/
def sx_cast (ins1 : Bool) (aux : List Nat) (L : List (Nat × sx_V)) (S : List sx_V) (w : sx_W) (nx : Nat) : Option sx_ST := match aux, S with
  | [ci, _, str], .inr (.inr v) :: S => (match v with
    | none => some (L, (bif ins1 then sx_int 0 else sx_nul) :: S, w, nx, 0, 0)
    | some (.inl a) => (match sx_look 12 w a with
      | some (.inl (cj, _)) => bif Nat.beq cj ci then some (L, (bif ins1 then sx_int 1 else sx_id a) :: S, w, nx, 0, 0) else none
      | _ => none)
    | some (.inr q) => bif Nat.beq str 1 && Nat.beq (q % 2) 0 && Nat.ble 100 q && Nat.blt q 166 then some (L, (bif ins1 then sx_int 1 else sx_ext q) :: S, w, nx, 0, 0) else none)
  | _, _ => none
def sx_okcast (tbs : List (List Cond)) (own : String) (idx : Nat) (aux : List Nat) : Bool := match aux with
  | [ci, wp, str] => (match vwCl[ci]? with
    | some q => sx_has tbs wp (.classLink own idx q.1) && (!(Nat.beq str 1) || decide (q.1 = "java/lang/String"))
    | none => false)
  | _ => false
theorem sx_ccast_ok (C : sx_CX p s m args meth c D cA z σ B A tb own mname cc nL) (htb : sx_tbOK tbs tb) {idx : Nat} {aux : List Nat} (hdg : decode cc pc = .ok (.checkcast idx, 3)) (hok : sx_okcast tbs own idx aux = true)
    (h : sx_cast false aux L S w nx = some (L', S', w', nx', dc, ds)) (K : sx_KM p l e R s m args below meth c Q D cA z σ Fr A nL (pc + 3) (cells + dc) (slots + ds) ρ L' S' w' nx') : sx_KM p l e R s m args below meth c Q D cA z σ Fr A nL pc cells slots ρ L S w nx := by
  intro wl H locs hI hS ls lv st hl hL hSt
  obtain ⟨hx, hb, hml, hts, hown, hK, hZ, hB, hA, hn⟩ := C
  unfold sx_cast at h
  split at h
  · rename_i ci wp str v S0
    unfold sx_okcast at hok
    simp only at hok
    split at hok
    · rename_i q hq
      rw [Bool.and_eq_true] at hok
      have hlk := hts _ (sx_has_in htb hok.1)
      split at h
      · cases h
        obtain ⟨o, r, rfl, ho, hSt9⟩ := hSt.ref
        replace hSt := hSt9; clear hSt9
        have ho : o = none := ho
        subst ho
        exact lv_castN hx hb hdg (K wl H locs hI hS ls lv _ hl hL ⟨sx_RVr (o := none) rfl, hSt⟩)
      · rename_i a
        split at h
        · rename_i cj fs ha
          cases hcj : Nat.beq cj ci with
          | false => rw [hcj] at h; cases h
          | true =>
            have ecj := Nat.eq_of_beq_eq_true hcj
            subst ecj
            rw [hcj] at h
            cases h
            obtain ⟨o, r, rfl, ⟨ad, ho, rfl⟩, hSt9⟩ := hSt.ref
            replace hSt := hSt9; clear hSt9
            obtain ⟨k0, a', e', q1, q2, ⟨xs, rfl, hxs⟩⟩ := hI.1 a _ ha
            cases ho.symm.trans q2
            exact va_castS hx hb hown hlk (hK.1 cj q hq).2 (va_recv hK hI.2.2.2.2.1 hq q1) hdg (K wl H locs hI hS ls lv _ hl hL ⟨sx_RVr (r := some (.inl a)) ⟨ad, ho, rfl⟩, hSt⟩)
        · cases h
      · rename_i q0
        cases hg : (Nat.beq str 1 && Nat.beq (q0 % 2) 0 && Nat.ble 100 q0 && Nat.blt q0 166) with
        | false => simp only [hg] at h; cases h
        | true =>
          simp only [hg, cond_true] at h
          cases h
          rw [Bool.and_eq_true, Bool.and_eq_true, Bool.and_eq_true] at hg
          have g0 := hg.1.1.1
          have g1 := Nat.eq_of_beq_eq_true hg.1.1.2
          have g2 := Nat.le_of_ble_eq_true hg.1.2
          have g3 : q0 < 166 := Nat.le_of_ble_eq_true hg.2
          obtain ⟨j, rfl⟩ : ∃ j, q0 = 100 + 2 * j := ⟨(q0 - 100) / 2, by omega⟩
          have hstr : q.1 = "java/lang/String" := by
            have := hok.2
            rw [g0] at this
            exact of_decide_eq_true (by simpa using this)
          rw [hstr] at hlk
          obtain ⟨o, r, rfl, ho, hSt9⟩ := hSt.ref
          replace hSt := hSt9; clear hSt9
          have ho9 := ho
          have ho : o = some (z (100 + 2 * j)) := ho.1 (by omega) (by omega)
          subst ho
          exact va_castE hx hb hown hlk (vk_recv hZ.2.2.2.2.2.2.2.2.1 (i := j) (by omega) hS) hdg (K wl H locs hI hS ls lv _ hl hL ⟨sx_RVr (r := some (.inr (100 + 2 * j))) ho9, hSt⟩)
    · cases hok
  · cases h
theorem sx_inst_ok (C : sx_CX p s m args meth c D cA z σ B A tb own mname cc nL) (htb : sx_tbOK tbs tb) {idx : Nat} {aux : List Nat} (hdg : decode cc pc = .ok (.instanceof idx, 3)) (hok : sx_okcast tbs own idx aux = true)
    (h : sx_cast true aux L S w nx = some (L', S', w', nx', dc, ds)) (K : sx_KM p l e R s m args below meth c Q D cA z σ Fr A nL (pc + 3) (cells + dc) (slots + ds) ρ L' S' w' nx') : sx_KM p l e R s m args below meth c Q D cA z σ Fr A nL pc cells slots ρ L S w nx := by
  intro wl H locs hI hS ls lv st hl hL hSt
  obtain ⟨hx, hb, hml, hts, hown, hK, hZ, hB, hA, hn⟩ := C
  unfold sx_cast at h
  split at h
  · rename_i ci wp str v S0
    unfold sx_okcast at hok
    simp only at hok
    split at hok
    · rename_i q hq
      rw [Bool.and_eq_true] at hok
      have hlk := hts _ (sx_has_in htb hok.1)
      split at h
      · cases h
        obtain ⟨o, r, rfl, ho, hSt9⟩ := hSt.ref
        replace hSt := hSt9; clear hSt9
        have ho : o = none := ho
        subst ho
        exact lv_instN hx hb hdg (K wl H locs hI hS ls lv _ hl hL ⟨sx_RVi (sx_RNc 0), hSt⟩)
      · rename_i a
        split at h
        · rename_i cj fs ha
          cases hcj : Nat.beq cj ci with
          | false => rw [hcj] at h; cases h
          | true =>
            have ecj := Nat.eq_of_beq_eq_true hcj
            subst ecj
            rw [hcj] at h
            cases h
            obtain ⟨o, r, rfl, ⟨ad, ho, rfl⟩, hSt9⟩ := hSt.ref
            replace hSt := hSt9; clear hSt9
            obtain ⟨k0, a', e', q1, q2, ⟨xs, rfl, hxs⟩⟩ := hI.1 a _ ha
            cases ho.symm.trans q2
            exact va_instS hx hb hown hlk (hK.1 cj q hq).2 (va_recv hK hI.2.2.2.2.1 hq q1) hdg (K wl H locs hI hS ls lv _ hl hL ⟨sx_RVi (sx_RNc 1), hSt⟩)
        · cases h
      · rename_i q0
        cases hg : (Nat.beq str 1 && Nat.beq (q0 % 2) 0 && Nat.ble 100 q0 && Nat.blt q0 166) with
        | false => simp only [hg] at h; cases h
        | true =>
          simp only [hg, cond_true] at h
          cases h
          rw [Bool.and_eq_true, Bool.and_eq_true, Bool.and_eq_true] at hg
          have g0 := hg.1.1.1
          have g1 := Nat.eq_of_beq_eq_true hg.1.1.2
          have g2 := Nat.le_of_ble_eq_true hg.1.2
          have g3 : q0 < 166 := Nat.le_of_ble_eq_true hg.2
          obtain ⟨j, rfl⟩ : ∃ j, q0 = 100 + 2 * j := ⟨(q0 - 100) / 2, by omega⟩
          have hstr : q.1 = "java/lang/String" := by
            have := hok.2
            rw [g0] at this
            exact of_decide_eq_true (by simpa using this)
          rw [hstr] at hlk
          obtain ⟨o, r, rfl, ho, hSt9⟩ := hSt.ref
          replace hSt := hSt9; clear hSt9
          have ho : o = some (z (100 + 2 * j)) := ho.1 (by omega) (by omega)
          subst ho
          exact va_instE hx hb hown hlk (vk_recv hZ.2.2.2.2.2.2.2.2.1 (i := j) (by omega) hS) hdg (K wl H locs hI hS ls lv _ hl hL ⟨sx_RVi (sx_RNc 1), hSt⟩)
    · cases hok
  · cases h
/-! constants and statics -/
def sx_ldc (aux : List Nat) (cst : Int) (L : List (Nat × sx_V)) (S : List sx_V) (w : sx_W) (nx : Nat) : Option sx_ST := match aux with
  | [0, _] => some (L, sx_int cst :: S, w, nx, 0, 0)
  | [1, _, j] => some (L, sx_ext (100 + 2 * j) :: S, w, nx, 0, 0)
  | [2, _] => some (L, .inr (.inl (sx_c cst)) :: S, w, nx, 0, 0)
  | _ => none
def sx_okldc (tbs : List (List Cond)) (own : String) (long : Bool) (idx : Nat) (aux : List Nat) (cst : Int) : Bool := match aux with
  | [0, wp] => !long && sx_has tbs wp (.constant own idx (Int32.ofInt cst))
  | [1, tp, j] => !long && (match sk_tab[tp]? with
    | some q => decide (q.1 = own) && Nat.beq q.2.1 idx && Nat.beq q.2.2.2 j && Nat.blt j 33
    | none => false)
  | [2, wp] => long && sx_has tbs wp (.constantLong own idx (Int64.ofInt cst))
  | _ => false
theorem sx_ldc_ok (C : sx_CX p s m args meth c D cA z σ B A tb own mname cc nL) (htb : sx_tbOK tbs tb) {ins : Instr} {idx : Nat} {aux : List Nat} {cst : Int} (hdg : (ins = .ldc idx ∧ decode cc pc = .ok (.ldc idx, 2) ∧ sx_okldc tbs own false idx aux cst = true) ∨ (ins = .ldc_w idx ∧ decode cc pc = .ok (.ldc_w idx, 3) ∧ sx_okldc tbs own false idx aux cst = true) ∨ (ins = .ldc2_w idx ∧ decode cc pc = .ok (.ldc2_w idx, 3) ∧ sx_okldc tbs own true idx aux cst = true))
    (h : sx_ldc aux cst L S w nx = some (L', S', w', nx', dc, ds)) (K : sx_KM p l e R s m args below meth c Q D cA z σ Fr A nL (pc + sx_ilen ins) (cells + dc) (slots + ds) ρ L' S' w' nx') : sx_KM p l e R s m args below meth c Q D cA z σ Fr A nL pc cells slots ρ L S w nx := by
  intro wl H locs hI hS ls lv st hl hL hSt
  obtain ⟨hx, hb, hml, hts, hown, hK, hZ, hB, hA, hn⟩ := C
  unfold sx_ldc at h
  split at h
  · rename_i wp
    cases h
    rcases hdg with ⟨rfl, hd, hok⟩ | ⟨rfl, hd, hok⟩ | ⟨rfl, hd, hok⟩
    · exact lv_ldc hx hb hown (hts _ (sx_has_in htb hok)) hd (K wl H locs hI hS ls lv _ hl hL ⟨sx_RVi (sx_RNc _), hSt⟩)
    · exact lv_ldcw hx hb hown (hts _ (sx_has_in htb hok)) hd (K wl H locs hI hS ls lv _ hl hL ⟨sx_RVi (sx_RNc _), hSt⟩)
    · cases hok
  · rename_i tp j
    cases h
    have str : sx_okldc tbs own false idx [1, tp, j] cst = true → (∃ tx, vk_R own idx tx (z (100 + 2 * j)) s) ∧ j < 33 := by
      intro hok
      unfold sx_okldc at hok
      simp only [Bool.not_false, Bool.true_and] at hok
      split at hok
      · rename_i q hq
        rw [Bool.and_eq_true, Bool.and_eq_true, Bool.and_eq_true] at hok
        have := hZ.2.2.2.2.2.2.2.2.2.1 q (List.mem_of_getElem? hq)
        rw [of_decide_eq_true hok.1.1.1, Nat.eq_of_beq_eq_true hok.1.1.2, Nat.eq_of_beq_eq_true hok.1.2] at this
        exact ⟨⟨_, this⟩, Nat.le_of_ble_eq_true hok.2⟩
      · cases hok
    rcases hdg with ⟨rfl, hd, hok⟩ | ⟨rfl, hd, hok⟩ | ⟨rfl, hd, hok⟩
    · obtain ⟨⟨tx, hR⟩, hj9⟩ := str hok
      exact va_ldcS hx hb hown hR hd (K wl H locs hI hS ls lv _ hl hL ⟨sx_RVr (r := some (.inr (100 + 2 * j))) (o := some (z (100 + 2 * j))) ⟨fun _ _ => rfl, fun h9 => absurd hj9 (by omega)⟩, hSt⟩)
    · obtain ⟨⟨tx, hR⟩, hj9⟩ := str hok
      exact va_ldcwS hx hb hown hR hd (K wl H locs hI hS ls lv _ hl hL ⟨sx_RVr (r := some (.inr (100 + 2 * j))) (o := some (z (100 + 2 * j))) ⟨fun _ _ => rfl, fun h9 => absurd hj9 (by omega)⟩, hSt⟩)
    · cases hok
  · rename_i wp
    cases h
    rcases hdg with ⟨rfl, hd, hok⟩ | ⟨rfl, hd, hok⟩ | ⟨rfl, hd, hok⟩
    · cases hok
    · cases hok
    · exact lv_ldc2 hx hb hown (hts _ (sx_has_in htb hok)) hd (K wl H locs hI hS ls lv _ hl hL ⟨sx_RVl (sx_RLc _), hSt⟩)
  · cases h
def sx_sta : Nat → String × String × String
  | 0 => ("java/util/ArrayList", "DEFAULTCAPACITY_EMPTY_ELEMENTDATA", "[Ljava/lang/Object;")
  | 1 => ("java/lang/String", "COMPACT_STRINGS", "Z")
  | 2 => ("GoalHouse", "RANKS", "[I")
  | 3 => ("GoalHouse", "PLAIN", "[I")
  | _ => ("jdk/internal/util/Preconditions", "SIOOBE_FORMATTER", "Ljava/util/function/BiFunction;")
def sx_stv : Nat → sx_V
  | 0 => sx_ext 0
  | 1 => sx_int 1
  | 2 => sx_ext 1
  | 3 => sx_ext 2
  | _ => sx_ext 3
def sx_gets (aux : List Nat) (L : List (Nat × sx_V)) (S : List sx_V) (w : sx_W) (nx : Nat) : Option sx_ST := match aux with
  | [k, _, _] => some (L, sx_stv k :: S, w, nx, 0, 0)
  | _ => none
def sx_okgets (tbs : List (List Cond)) (own : String) (idx : Nat) (aux : List Nat) : Bool := match aux with
  | [k, 0, wp] => sx_has tbs wp (.fieldLink own idx (sx_sta k).1 (sx_sta k).2.1 (sx_sta k).2.2)
  | [k, _, wp] => (match sk_nest[wp]? with
    | some (.fieldLinkNest o i r n d _) => decide (o = own ∧ i = idx ∧ r = (sx_sta k).1 ∧ n = (sx_sta k).2.1 ∧ d = (sx_sta k).2.2)
    | _ => false)
  | _ => false
theorem sx_stv_ok (hZ : SR z A s s.heap) (k : Nat) : ∃ v, va_Z (sx_sta k).1 (sx_sta k).2.1 (sx_sta k).2.2 v A s s.heap ∧ sx_RV ρ z σ (sx_stv k) v := by
  obtain ⟨h1, -, h3, h4, -, h6, -, h8, -, -, -⟩ := hZ
  match k with
  | 0 => exact ⟨_, h1, sx_RVr (r := some (.inr 0)) (o := some (z 0)) ⟨fun _ _ => rfl, fun h9 => absurd h9 (by decide)⟩⟩
  | 1 => exact ⟨_, h3, sx_RVi (sx_RNc 1)⟩
  | 2 => exact ⟨_, h4, sx_RVr (r := some (.inr 1)) (o := some (z 1)) ⟨fun _ _ => rfl, fun h9 => absurd h9 (by decide)⟩⟩
  | 3 => exact ⟨_, h6, sx_RVr (r := some (.inr 2)) (o := some (z 2)) ⟨fun _ _ => rfl, fun h9 => absurd h9 (by decide)⟩⟩
  | n + 4 =>
    rcases h8 with h | ⟨t, h⟩
    · exact ⟨_, h, sx_RVr (r := some (.inr 3)) (o := none) ⟨fun q => absurd rfl q, fun h9 => absurd h9 (by decide)⟩⟩
    · exact ⟨_, h, sx_RVr (r := some (.inr 3)) (o := some t) ⟨fun q => absurd rfl q, fun h9 => absurd h9 (by decide)⟩⟩
theorem sx_gets_ok (C : sx_CX p s m args meth c D cA z σ B A tb own mname cc nL) (htb : sx_tbOK tbs tb) {idx : Nat} {aux : List Nat} (hdg : decode cc pc = .ok (.getstatic idx, 3)) (hok : sx_okgets tbs own idx aux = true)
    (h : sx_gets aux L S w nx = some (L', S', w', nx', dc, ds)) (K : sx_KM p l e R s m args below meth c Q D cA z σ Fr A nL (pc + 3) (cells + dc) (slots + ds) ρ L' S' w' nx') : sx_KM p l e R s m args below meth c Q D cA z σ Fr A nL pc cells slots ρ L S w nx := by
  intro wl H locs hI hS ls lv st hl hL hSt
  obtain ⟨hx, hb, hml, hts, hown, hK, hZ, hB, hA, hn⟩ := C
  unfold sx_gets at h
  split at h
  · rename_i k mo wp
    cases h
    obtain ⟨v, hv, hR⟩ := sx_stv_ok (ρ := ρ) (σ := σ) hZ k
    unfold sx_okgets at hok
    split at hok
    · rename_i h0
      cases h0
      exact va_gets hx hb hv hS hown (hts _ (sx_has_in htb hok)) (fun _ h9 => h9) hdg (K wl H locs hI hS ls lv _ hl hL ⟨hR, hSt⟩)
    · rename_i h0
      cases h0
      split at hok
      · rename_i o i r n d host hq
        obtain ⟨rfl, rfl, rfl, rfl, rfl⟩ := of_decide_eq_true hok
        have hw := hZ.2.2.2.2.2.2.2.2.2.2 _ (List.mem_of_getElem? hq)
        exact va_getsN hx hb hv hS hown (host := host) hw (fun _ h9 => h9) hdg (K wl H locs hI hS ls lv _ hl hL ⟨hR, hSt⟩)
      · cases hok
    · cases hok
  · cases h
/-! jumps: whether the jump is taken -/
def sx_req (a b : sx_F) : Option Bool := match a, b with
  | none, none => some true
  | none, some (.inl _) => some false
  | some (.inl _), none => some false
  | some (.inl i), some (.inl j) => some (Nat.beq i j)
  | some (.inl _), some (.inr 0) => some false
  | some (.inr 0), some (.inl _) => some false
  | some (.inr 0), some (.inr 0) => some true
  | some (.inr 0), none => some false
  | none, some (.inr 0) => some false
  | some (.inl _), some (.inr q) => bif Nat.beq (q % 2) 0 && Nat.ble 100 q && Nat.blt q 166 then some false else none
  | some (.inr q), some (.inl _) => bif Nat.beq (q % 2) 0 && Nat.ble 100 q && Nat.blt q 166 then some false else none
  | some (.inr q), some (.inr r) => bif Nat.beq q r && Nat.ble 100 q then some true else none
  | _, _ => none
theorem sx_T_out {ty : FieldType} {t N : Nat} {f : Nat → Value} {U : State} {H : Heap} (h : va_T ty t N f A U H) : ¬ A t := by
  obtain ⟨_, -, -, -, -, -, -, h⟩ := h
  exact h
theorem sx_O_out {E : String} {t : Nat} {U : State} {H : Heap} (h : va_O E t A U H) : ¬ A t := by
  obtain ⟨_, -, -, -, h⟩ := h
  exact h
theorem sx_req_ok (hZ : SR z A s s.heap) {wl : va_W} {H : Heap} (hI : sx_IN D cA ρ z σ Fr A w nx wl H) {a b : sx_F} {t : Bool} (h : sx_req a b = some t) {x y : Option Nat} (ha : sx_RF ρ z a x) (hb : sx_RF ρ z b y) : x = y ↔ t = true := by
  have ff : ∀ {P : Prop}, ¬ P → (P ↔ false = true) := fun p => ⟨fun q => absurd q p, fun q => nomatch q⟩
  have tt : ∀ {P : Prop}, P → (P ↔ true = true) := fun p => ⟨fun _ => rfl, fun _ => p⟩
  have inA : ∀ {i a}, ρ i = some a → A a := fun {i a} hi => by
    obtain ⟨-, k, e, hk⟩ := hI.2.1 i a hi
    exact hI.2.2.2.2.2.2 k (a, e) hk
  have o0 : ¬ A (z 0) := sx_T_out hZ.2.1
  have oS : ∀ {q}, (Nat.beq (q % 2) 0 && Nat.ble 100 q && Nat.blt q 166) = true → (q ≠ 3 ∧ q < 2000) ∧ ¬ A (z q) := fun {q} hg => by
    rw [Bool.and_eq_true, Bool.and_eq_true] at hg
    have g1 := Nat.eq_of_beq_eq_true hg.1.1
    have g2 := Nat.le_of_ble_eq_true hg.1.2
    have g3 : q < 166 := Nat.le_of_ble_eq_true hg.2
    obtain ⟨j, rfl⟩ : ∃ j, q = 100 + 2 * j := ⟨(q - 100) / 2, by omega⟩
    exact ⟨⟨by omega, by omega⟩, sx_O_out (hZ.2.2.2.2.2.2.2.2.1.1 j (by omega)).1⟩
  unfold sx_req at h
  split at h
  · cases h
    exact tt (Eq.trans ha (Eq.symm hb))
  · cases h
    obtain ⟨c, -, rfl⟩ := hb
    have ha : x = none := ha
    exact ff (by rw [ha]; exact fun q => nomatch q)
  · cases h
    obtain ⟨c, -, rfl⟩ := ha
    have hb : y = none := hb
    exact ff (by rw [hb]; exact fun q => nomatch q)
  · rename_i i j
    cases h
    obtain ⟨c, hc, rfl⟩ := ha
    obtain ⟨d, hd, rfl⟩ := hb
    cases hij : Nat.beq i j with
    | true =>
      have := Nat.eq_of_beq_eq_true hij
      subst this
      exact tt (by rw [← hc, ← hd])
    | false =>
      refine ff (fun q => ?_)
      cases q
      have := hI.2.2.1 i j _ hc hd
      subst this
      rw [show Nat.beq i i = true from Nat.beq_refl i] at hij
      cases hij
  · cases h
    obtain ⟨c, hc, rfl⟩ := ha
    have hb : y = some (z 0) := hb.1 (by omega) (by omega)
    exact ff (fun q => o0 (by rw [hb] at q; cases q; exact inA hc))
  · cases h
    obtain ⟨c, hc, rfl⟩ := hb
    have ha : x = some (z 0) := ha.1 (by omega) (by omega)
    exact ff (fun q => o0 (by rw [ha] at q; cases q; exact inA hc))
  · cases h
    have ha : x = some (z 0) := ha.1 (by omega) (by omega)
    have hb : y = some (z 0) := hb.1 (by omega) (by omega)
    exact tt (by rw [ha, hb])
  · cases h
    have ha : x = some (z 0) := ha.1 (by omega) (by omega)
    have hb : y = none := hb
    exact ff (by rw [ha, hb]; exact fun q => nomatch q)
  · cases h
    have hb : y = some (z 0) := hb.1 (by omega) (by omega)
    have ha : x = none := ha
    exact ff (by rw [ha, hb]; exact fun q => nomatch q)
  · rename_i q _
    cases hg : (Nat.beq (q % 2) 0 && Nat.ble 100 q && Nat.blt q 166) with
    | false => simp only [hg] at h; cases h
    | true =>
      simp only [hg] at h
      cases h
      obtain ⟨q3, oq⟩ := oS hg
      obtain ⟨c, hc, rfl⟩ := ha
      have hb : y = some (z q) := hb.1 q3.1 q3.2
      exact ff (fun r => oq (by rw [hb] at r; cases r; exact inA hc))
  · rename_i q _ _
    cases hg : (Nat.beq (q % 2) 0 && Nat.ble 100 q && Nat.blt q 166) with
    | false => simp only [hg] at h; cases h
    | true =>
      simp only [hg] at h
      cases h
      obtain ⟨q3, oq⟩ := oS hg
      obtain ⟨c, hc, rfl⟩ := hb
      have ha : x = some (z q) := ha.1 q3.1 q3.2
      exact ff (fun r => oq (by rw [ha] at r; cases r; exact inA hc))
  · rename_i q r _
    cases hg : (Nat.beq q r && Nat.ble 100 q) with
    | false => simp only [hg] at h; cases h
    | true =>
      simp only [hg] at h
      cases h
      rw [Bool.and_eq_true] at hg
      have e1 := Nat.eq_of_beq_eq_true hg.1
      have e2 := Nat.le_of_ble_eq_true hg.2
      subst e1
      rcases Nat.lt_or_ge q 2000 with e3 | e3
      · have ha : x = some (z q) := ha.1 (by omega) e3
        have hb : y = some (z q) := hb.1 (by omega) e3
        exact tt (by rw [ha, hb])
      · have ha : x = sx_mb (z q) := ha.2 e3
        have hb : y = sx_mb (z q) := hb.2 e3
        exact tt (by rw [ha, hb])
  · cases h
def sx_nulq (a : sx_F) : Option Bool := match a with
  | none => some true
  | some (.inl _) => some false
  | some (.inr q) => bif Nat.beq q 3 || Nat.ble 2000 q then none else some false
theorem sx_nulq_ok {a : sx_F} {t : Bool} (h : sx_nulq a = some t) {x : Option Nat} (ha : sx_RF ρ z a x) : (t = true ∧ x = none) ∨ (t = false ∧ ∃ y, x = some y) := by
  unfold sx_nulq at h
  split at h
  · cases h; exact Or.inl ⟨rfl, ha⟩
  · cases h
    obtain ⟨c, -, rfl⟩ := ha
    exact Or.inr ⟨rfl, _, rfl⟩
  · rename_i q
    cases hq : (Nat.beq q 3 || Nat.ble 2000 q) with
    | true => rw [hq] at h; cases h
    | false =>
      rw [hq] at h
      cases h
      rw [Bool.or_eq_false_iff] at hq
      exact Or.inr ⟨rfl, _, ha.1 (fun e => by rw [e] at hq; cases hq.1) (Nat.lt_of_not_le fun e => by rw [Nat.ble_eq_true_of_le e] at hq; cases hq.2)⟩
def sx_jmp (B : sx_Bs) (ins : Instr) (S : List sx_V) : Option (List sx_V × Bool) := match ins with
  | .goto _ => some (S, true)
  | .if_icmp c _ => (match S with
    | .inl y :: .inl x :: S => (match sx_dif B x y with
      | some d => (match sx_rel c d with
        | some t => some (S, t)
        | none => none)
      | none => none)
    | _ => none)
  | .ifCond c _ => (match S with
    | .inl x :: S => (match sx_dif B x (.inl (sx_c 0)) with
      | some d => (match sx_rel c d with
        | some t => some (S, t)
        | none => none)
      | none => none)
    | _ => none)
  | .if_acmp c _ => (match S with
    | .inr (.inr y) :: .inr (.inr x) :: S => (match sx_req x y with
      | some t => some (S, (match c with
        | .eq => t
        | .ne => !t))
      | none => none)
    | _ => none)
  | .ifnull _ => (match S with
    | .inr (.inr x) :: S => (match sx_nulq x with
      | some t => some (S, t)
      | none => none)
    | _ => none)
  | .ifnonnull _ => (match S with
    | .inr (.inr x) :: S => (match sx_nulq x with
      | some t => some (S, !t)
      | none => none)
    | _ => none)
  | _ => none
def sx_joff (ins : Instr) : Int := match ins with
  | .goto o => o
  | .if_icmp _ o => o
  | .ifCond _ o => o
  | .if_acmp _ o => o
  | .ifnull o => o
  | .ifnonnull o => o
  | _ => 0
theorem sx_jmp_ok (C : sx_CX p s m args meth c D cA z σ B A tb own mname cc nL) {ins : Instr} (hdg : decode cc pc = .ok (ins, 3)) {tgt : Nat} {t : Bool} (ht : (pc : Int) + sx_joff ins = (tgt : Int))
    (h : sx_jmp B ins S = some (S', t)) (K : sx_KM p l e R s m args below meth c Q D cA z σ Fr A nL (bif t then tgt else pc + 3) cells slots ρ L S' w nx) : sx_KM p l e R s m args below meth c Q D cA z σ Fr A nL pc cells slots ρ L S w nx := by
  intro wl H locs hI hS ls lv st hl hL hSt
  obtain ⟨hx, hb, hml, hts, hown, hK, hZ, hB, hA, hn⟩ := C
  have K := fun r hr => K wl H locs hI hS ls lv r hl hL hr
  have kt : ∀ {P : Prop} {r}, (P ↔ t = true) → sx_RS ρ z σ S' r → P → W p l e R s m args below meth c H locs cells slots Q (F0 m tgt ls r) := fun {P r} hP hr q => by
    have := K r hr
    rw [hP.mp q] at this
    exact this
  have kf : ∀ {P : Prop} {r}, (P ↔ t = true) → sx_RS ρ z σ S' r → ¬ P → W p l e R s m args below meth c H locs cells slots Q (F0 m (pc + 3) ls r) := fun {P r} hP hr q => by
    have := K r hr
    have tf : t = false := by
      cases t with
      | true => exact absurd (hP.mpr rfl) q
      | false => rfl
    rw [tf] at this
    exact this
  unfold sx_jmp at h
  split at h
  · cases h
    exact lv_goto hx hb hdg ht (K _ hSt)
  · rename_i cnd off
    split at h
    · split at h
      · rename_i y x S0 d hd
        split at h
        · rename_i t' hr
          cases h
          obtain ⟨b, r, rfl, hb9, hSt9⟩ := hSt.int
          replace hSt := hSt9; clear hSt9
          obtain ⟨a, r, rfl, ha, hSt9⟩ := hSt.int
          replace hSt := hSt9; clear hSt9
          have hP := sx_cmp_ok hB hd ha hb9 hr
          cases cnd with
          | eq => exact lv_icmp_eq hx hb hdg ht (kt hP hSt) (kf hP hSt)
          | ne => exact lv_icmp_ne hx hb hdg ht (kt hP hSt) (fun q => kf hP hSt (fun z9 => z9 q))
          | lt => exact lv_icmp_lt hx hb hdg ht (kt hP hSt) (kf hP hSt)
          | ge => exact lv_icmp_ge hx hb hdg ht (kt hP hSt) (kf hP hSt)
          | gt => exact lv_icmp_gt hx hb hdg ht (kt hP hSt) (kf hP hSt)
          | le => exact lv_icmp_le hx hb hdg ht (kt hP hSt) (kf hP hSt)
        · cases h
      · cases h
    · cases h
  · rename_i cnd off
    split at h
    · split at h
      · rename_i x S0 d hd
        split at h
        · rename_i t' hr
          cases h
          obtain ⟨a, r, rfl, ha, hSt9⟩ := hSt.int
          replace hSt := hSt9; clear hSt9
          have hP := sx_cmp_ok hB hd ha (sx_RNc 0) hr
          cases cnd with
          | eq => exact lv_if_eq hx hb hdg ht (kt hP hSt) (kf hP hSt)
          | ne => exact lv_if_ne hx hb hdg ht (kt hP hSt) (fun q => kf hP hSt (fun z9 => z9 q))
          | lt => exact lv_if_lt hx hb hdg ht (kt hP hSt) (kf hP hSt)
          | ge => exact lv_if_ge hx hb hdg ht (kt hP hSt) (kf hP hSt)
          | gt => exact lv_if_gt hx hb hdg ht (kt hP hSt) (kf hP hSt)
          | le => exact lv_if_le hx hb hdg ht (kt hP hSt) (kf hP hSt)
        · cases h
      · cases h
    · cases h
  · rename_i cnd off
    split at h
    · split at h
      · rename_i y x S0 t' hr
        cases h
        obtain ⟨b, r, rfl, hb9, hSt9⟩ := hSt.ref
        replace hSt := hSt9; clear hSt9
        obtain ⟨a, r, rfl, ha, hSt9⟩ := hSt.ref
        replace hSt := hSt9; clear hSt9
        have hP := sx_req_ok hZ hI hr ha hb9
        cases cnd with
        | eq => exact lv_acmp_eq hx hb hdg ht (kt hP hSt) (kf hP hSt)
        | ne =>
          have hQ : (¬ a = b) ↔ (!t') = true := by rw [hP]; cases t' <;> decide
          exact lv_acmp_ne hx hb hdg ht (kt hQ hSt) (fun q => kf hQ hSt (fun z9 => z9 q))
      · cases h
    · cases h
  · split at h
    · split at h
      · rename_i x S0 t' hr
        cases h
        obtain ⟨a, r, rfl, ha, hSt9⟩ := hSt.ref
        replace hSt := hSt9; clear hSt9
        rcases sx_nulq_ok hr ha with ⟨rfl, rfl⟩ | ⟨rfl, y, rfl⟩
        · exact lv_ifnullN hx hb hdg ht (K _ hSt)
        · exact lv_ifnull hx hb hdg (K _ hSt)
      · cases h
    · cases h
  · split at h
    · split at h
      · rename_i x S0 t' hr
        cases h
        obtain ⟨a, r, rfl, ha, hSt9⟩ := hSt.ref
        replace hSt := hSt9; clear hSt9
        rcases sx_nulq_ok hr ha with ⟨rfl, rfl⟩ | ⟨rfl, y, rfl⟩
        · exact lv_ifnonnullN hx hb hdg (K _ hSt)
        · exact lv_ifnonnull hx hb hdg ht (K _ hSt)
      · cases h
    · cases h
  · cases h
end SXC
