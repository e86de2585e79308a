/-! the text that was fed is the text that is read -/
def xa (u : Nat) (s : Bool) : List sx_I := cond s [kc 45, (.ofNat 48, [(u, .ofNat 1)])] [(.ofNat 48, [(u, .ofNat 1)])]
def xspan (u1 u2 u3 : Nat) (a b c : Bool) : List sx_I := [kc 40] ++ (xa u1 a ++ ([kc 32, kc 116, kc 111, kc 32] ++ (xa u2 b ++ ([kc 32, kc 98, kc 121, kc 32] ++ (xa u3 c ++ [kc 41])))))
def xmost (s : Bool) : List sx_I := cond s [(.ofNat 48, [(9, .ofNat 1)])] [(.ofNat 48, [(8, .ofNat 1)]), (.ofNat 48, [(9, .ofNat 1)])]
def xbl (o : Nat) : List sx_I := List.replicate (Nat.sub (cond (Nat.beq o 40) 40 60) o) (kc 32)
theorem xb0 : (f_g0.2.2.1.all fun o => decide (f_bytes f_g0.1 o [] = [kc 40, kc 40])) = true := by decide +kernel
theorem xb1 : ∀ a b c : Bool, (f_g1.2.2.1.all fun o => decide (f_bytes f_g1.1 o (n_V1 a b c).1 = xspan 0 1 6 a b c)) = true := by decide +kernel
theorem xb2 : (([0, 1, 2, 3, 4, 5] : List Nat).all fun x => f_g2.2.2.1.all fun o => decide (f_bytes f_g2.1 o (n_V2 (Int.ofNat x)).1 = wact x)) = true := by decide +kernel
theorem xb3 : ∀ a b c : Bool, (f_g3.2.2.1.all fun o => decide (f_bytes f_g3.1 o (n_V3 a b c).1 = xspan 2 3 7 a b c)) = true := by decide +kernel
theorem xb4 : (f_g4.2.2.1.all fun o => decide (f_bytes f_g4.1 o [] = [kc 41])) = true := by decide +kernel
theorem xb5 : (([0, 1, 2, 3, 4, 5] : List Nat).all fun x => f_g5.2.2.1.all fun o => decide (f_bytes f_g5.1 o (n_V5 (Int.ofNat x)).1 = wact x)) = true := by decide +kernel
theorem xb6 : (f_g6.2.2.1.all fun o => decide (f_bytes f_g6.1 o [] = [kc 40])) = true := by decide +kernel
theorem xb7 : ∀ a : Bool, (f_g7.2.2.1.all fun o => decide (f_bytes f_g7.1 o (n_V7 a).1 = xa 4 a)) = true := by decide +kernel
theorem xb8 : (f_g8.2.2.1.all fun o => decide (f_bytes f_g8.1 o [] = [kc 124])) = true := by decide +kernel
theorem xb9 : ∀ a : Bool, (f_g9.2.2.1.all fun o => decide (f_bytes f_g9.1 o (n_V9 a).1 = xa 5 a)) = true := by decide +kernel
theorem xb10 : (f_g10.2.2.1.all fun o => decide (f_bytes f_g10.1 o [] = [kc 41, kc 41, kc 92, kc 32])) = true := by decide +kernel
theorem xb11 : ∀ a : Bool, (f_g11.2.2.1.all fun o => decide (f_bytes f_g11.1 o (n_V11 a).1 = xmost a)) = true := by decide +kernel
theorem xb12 : (f_g12.2.2.1.all fun o => decide (f_bytes f_g12.1 o [] = xbl o)) = true := by decide +kernel
theorem xal {l : List Nat} {F G : Nat → List sx_I} (h : (l.all fun o => decide (F o = G o)) = true) : ∀ o ∈ l, F o = G o := fun o ho => of_decide_eq_true (List.all_eq_true.mp h o ho)
theorem xs2 {g : f_G} {gs : List f_G} {V : f_V} {Vs : List f_V} {r r' o : Nat} {os os' : List Nat} {w : List sx_I} (hs : f_seq r os (g :: gs) (V :: Vs) r' os') (ho : o ∈ os) (hw : ∀ o ∈ g.2.2.1, f_bytes g.1 o V.1 = w) : f_txt (g :: gs) (V :: Vs) o = w ++ f_txt gs Vs (o + w.length) ∧ f_seq g.2.1 g.2.2.2.1 gs Vs r' os' ∧ o + w.length ∈ g.2.2.2.1 := by
  obtain ⟨rfl, rfl, hg, hVg, hs⟩ := hs
  obtain ⟨a1, -, -⟩ := f_gok_ok hg ho hVg
  have e := hw o ho
  have e9 : f_txt (g :: gs) (V :: Vs) o = f_bytes g.1 o V.1 ++ f_txt gs Vs (o + (f_bytes g.1 o V.1).length) := rfl
  rw [e] at e9 a1
  exact ⟨e9, hs, a1⟩
/-- the text, in pieces -/
def xtext (a b c d e f g h : Bool) (q1 q2 : Nat) (s : Bool) : List sx_I := [kc 40, kc 40] ++ (xspan 0 1 6 a b c ++ (wact q1 ++ (xspan 2 3 7 d e f ++ ([kc 41] ++ (wact q2 ++ ([kc 40] ++ (xa 4 g ++ ([kc 124] ++ (xa 5 h ++ ([kc 41, kc 41, kc 92, kc 32] ++ xmost s))))))))))
theorem x_txt {ns : Nat} {f : Nat → Int32} {a b c d e h1 g h : Bool} {q1 q2 : Nat} {s : Bool} (ha : decide (n_m ns f 0 < 0) = a) (hb : decide (n_m ns f 1 < 0) = b) (hc : decide (n_by ns f < 0) = c) (hd : decide (n_m ns f 2 < 0) = d) (he : decide (n_m ns f 3 < 0) = e) (hf : decide (n_ot ns f < 0) = h1) (hg : decide (n_m ns f 4 < 0) = g) (hh : decide (n_m ns f 5 < 0) = h) (hs : decide (n_mo ns f < 10) = s) (hq1 : n_lo ns f 12 6 = Int.ofNat q1) (hq2 : n_lo ns f 13 6 = Int.ofNat q2) (h61 : q1 < 6) (h62 : q2 < 6) : ∃ o, (xtext a b c d e h1 g h q1 q2 s).length = o ∧ 40 ≤ o ∧ o ≤ 51 ∧ n_txt ns f = xtext a b c d e h1 g h q1 q2 s ++ xbl o := by
  have hS := n_seq ns f
  have hV : n_Vs ns f = [([], []), n_V1 a b c, n_V2 (Int.ofNat q1), n_V3 d e h1, ([], []), n_V5 (Int.ofNat q2), ([], []), n_V7 g, ([], []), n_V9 h, ([], []), n_V11 s, ([], [])] := by
    unfold n_Vs
    rw [ha, hb, hc, hd, he, hf, hg, hh, hs, hq1, hq2]
  rw [hV] at hS
  unfold n_txt
  rw [hV]
  unfold n_Gs at hS ⊢
  obtain ⟨e0, hS, o0⟩ := xs2 hS (o := 0) (List.mem_singleton.mpr rfl) (xal xb0)
  obtain ⟨e1, hS, o1⟩ := xs2 hS o0 (xal (xb1 a b c))
  obtain ⟨e2, hS, o2⟩ := xs2 hS o1 (xal (List.all_eq_true.mp xb2 q1 (q6 h61)))
  obtain ⟨e3, hS, o3⟩ := xs2 hS o2 (xal (xb3 d e h1))
  obtain ⟨e4, hS, o4⟩ := xs2 hS o3 (xal xb4)
  obtain ⟨e5, hS, o5⟩ := xs2 hS o4 (xal (List.all_eq_true.mp xb5 q2 (q6 h62)))
  obtain ⟨e6, hS, o6⟩ := xs2 hS o5 (xal xb6)
  obtain ⟨e7, hS, o7⟩ := xs2 hS o6 (xal (xb7 g))
  obtain ⟨e8, hS, o8⟩ := xs2 hS o7 (xal xb8)
  obtain ⟨e9, hS, o9⟩ := xs2 hS o8 (xal (xb9 h))
  obtain ⟨e10, hS, o10⟩ := xs2 hS o9 (xal xb10)
  obtain ⟨e11, hS, o11⟩ := xs2 hS o10 (xal (xb11 s))
  have hl := xal xb12 _ o11
  have e12 : ∀ o, f_txt [f_g12] [([], [])] o = f_bytes f_g12.1 o [] ++ [] := fun o => rfl
  rw [e0, e1, e2, e3, e4, e5, e6, e7, e8, e9, e10, e11, e12, List.append_nil, hl]
  refine ⟨_, rfl, ?_⟩
  have hlen : (xtext a b c d e h1 g h q1 q2 s).length = 0 + ([kc 40, kc 40] : List sx_I).length + (xspan 0 1 6 a b c).length + (wact q1).length + (xspan 2 3 7 d e h1).length + ([kc 41] : List sx_I).length + (wact q2).length + ([kc 40] : List sx_I).length + (xa 4 g).length + ([kc 124] : List sx_I).length + (xa 5 h).length + ([kc 41, kc 41, kc 92, kc 32] : List sx_I).length + (xmost s).length := by
    unfold xtext
    simp only [List.length_append]
    omega
  rw [hlen]
  have rg : ∀ o ∈ f_g11.2.2.2.1, 40 ≤ o ∧ o ≤ 51 := by decide
  obtain ⟨r1, r2⟩ := rg _ o11
  refine ⟨r1, r2, ?_⟩
  unfold xtext
  simp only [List.append_assoc]
/-! bytes that are alike -/
def pE (σ σ' : Nat → Int) : List sx_I → List sx_I → Prop
  | [], [] => True
  | e :: t, e' :: t' => sx_ev σ e = sx_ev σ' e' ∧ pE σ σ' t t'
  | _, _ => False
section PE
variable {σ σ' : Nat → Int}
theorem pE_app : ∀ {x y x' y' : List sx_I}, pE σ σ' x x' → pE σ σ' y y' → pE σ σ' (x ++ y) (x' ++ y')
  | [], _, [], _, _, h => h
  | [], _, _ :: _, _, h, _ => h.elim
  | _ :: _, _, [], _, h, _ => h.elim
  | _ :: _, _, _ :: _, _, h, h9 => ⟨h.1, pE_app h.2 h9⟩
theorem pE_k {n : Nat} : sx_ev σ (kc n) = sx_ev σ' (kc n) := rfl
theorem pE_rf : ∀ {x : List sx_I}, (x.all fun e => decide (e.2 = [])) = true → pE σ σ' x x
  | [], _ => trivial
  | e :: t, h => by
    rw [List.all_cons, Bool.and_eq_true] at h
    refine ⟨?_, pE_rf h.2⟩
    obtain ⟨c, l⟩ := e
    have h1 : l = [] := of_decide_eq_true h.1
    subst h1
    rfl
theorem pE_act (q : Nat) : pE σ σ' (wact q) (wact q) := pE_rf (by
  unfold wact
  split <;> rfl)
theorem pE_bl (n : Nat) : pE σ σ' (List.replicate n (kc 32)) (List.replicate n (kc 32)) := pE_rf (List.all_eq_true.mpr fun x hx => by
  rw [(List.mem_replicate.mp hx).2]
  rfl)
theorem pE_op {u v : Nat} {s : Bool} (h : σ u = cond s (-(σ' v)) (σ' v)) : pE σ σ' (xa u s) (wop v s) := by
  cases s with
  | false =>
    have h : σ u = σ' v := h
    exact ⟨by simp only [sx_ev, sx_evl, dg, cond_false, gs_ofNat, h], trivial⟩
  | true =>
    have h : σ u = -(σ' v) := h
    exact ⟨rfl, by simp only [sx_ev, sx_evl, dg, cond_true, gs_ofNat, gs_neg, h]; omega, trivial⟩
theorem pE_span {u1 u2 u3 v1 v2 v3 : Nat} {a b c : Bool} (h1 : σ u1 = cond a (-(σ' v1)) (σ' v1)) (h2 : σ u2 = cond b (-(σ' v2)) (σ' v2)) (h3 : σ u3 = cond c (-(σ' v3)) (σ' v3)) : pE σ σ' (xspan u1 u2 u3 a b c) (wspan v1 v2 v3 a b c) :=
  pE_app (pE_rf rfl) (pE_app (pE_op h1) (pE_app (pE_rf rfl) (pE_app (pE_op h2) (pE_app (pE_rf rfl) (pE_app (pE_op h3) (pE_rf rfl))))))
/-- what lies on the tape is the text -/
theorem pE_P : ∀ {T w : List sx_I} {i : Nat}, pE σ σ' T w → (∀ (j : Nat) (e : sx_I), T[j]? = some e → sx_ev σ e = σ' (220 + (i + j))) → pP σ' i w
  | [], [], _, _, _ => fun q hq => (nomatch hq)
  | [], _ :: _, _, h, _ => h.elim
  | _ :: _, [], _, h, _ => h.elim
  | e :: T, e' :: w, i, h, hT => fun q hq => by
    have hq : q ∈ (Nat.add 220 i, e') :: pth (Nat.succ i) w := hq
    rcases List.mem_cons.mp hq with rfl | hq
    · show sx_ev σ' e' = σ' (220 + i)
      rw [← h.1]
      exact hT 0 e rfl
    · exact pE_P (i := Nat.succ i) h.2 (fun j x hx => by
        have := hT (j + 1) x hx
        rw [show i + (j + 1) = Nat.succ i + j by omega] at this
        exact this) q hq
end PE
