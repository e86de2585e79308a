/-! the goal's text; the reading from its first byte to its end -/
def wgh (g h : Bool) : List sx_I := [kc 40] ++ (wop 35 g ++ ([kc 124] ++ (wop 36 h ++ [kc 41])))
def wtext (a b c d e f g h : Bool) (q1 q2 : Nat) (t : Bool) : List sx_I := ([kc 40, kc 40] ++ wspan 37 11 12 a b c) ++ (wact q1 ++ (wspan 32 33 34 d e f ++ ([kc 41] ++ (wact q2 ++ (wgh g h ++ ([kc 41] ++ ([kc 92] ++ wmost (Nat.add (Nat.add (k3 a b c) (k3 d e f)) (k2' g h)) (Nat.add (bN (wwide q1)) (bN (wwide q2))) t)))))))
/-- known bytes of the text -/
def pP (σ : Nat → Int) (i : Nat) (w : List sx_I) : Prop := ∀ q ∈ pth i w, sx_ev σ q.2 = σ q.1
theorem pth_app : ∀ (x y : List sx_I) (i : Nat), pth i (x ++ y) = pth i x ++ pth (i + x.length) y
  | [], y, i => rfl
  | e :: x, y, i => by
    show (Nat.add 220 i, e) :: pth (Nat.succ i) (x ++ y) = (Nat.add 220 i, e) :: (pth (Nat.succ i) x ++ pth (i + (x.length + 1)) y)
    rw [pth_app x y (Nat.succ i), show Nat.succ i + x.length = i + (x.length + 1) by omega]
theorem pP_split {σ : Nat → Int} {i j : Nat} {x y : List sx_I} (h : pP σ i (x ++ y)) (hj : i + x.length = j) : pP σ i x ∧ pP σ j y := by
  subst hj
  unfold pP at h ⊢
  rw [pth_app] at h
  exact ⟨fun q hq => h q (List.mem_append_left _ hq), fun q hq => h q (List.mem_append_right _ hq)⟩
theorem pP_join {σ : Nat → Int} {i j : Nat} {x y : List sx_I} (h1 : pP σ i x) (h2 : pP σ j y) (hj : i + x.length = j) : pP σ i (x ++ y) := by
  subst hj
  unfold pP at h1 h2 ⊢
  rw [pth_app]
  intro q hq
  rcases List.mem_append.mp hq with hq | hq
  · exact h1 q hq
  · exact h2 q hq
theorem ln_1 : ∀ a b c : Bool, ([kc 40, kc 40] ++ wspan 37 11 12 a b c).length = 15 + k3 a b c := by decide
theorem ln_2 : ∀ d e f : Bool, (wspan 32 33 34 d e f).length = 13 + k3 d e f := by decide
theorem ln_g : ∀ g h : Bool, (wgh g h).length = 5 + k2' g h := by decide
theorem ln_a {q : Nat} (hq : q < 6) : (wact q).length = 1 + bN (wwide q) := by
  have h9 : q = 0 ∨ q = 1 ∨ q = 2 ∨ q = 3 ∨ q = 4 ∨ q = 5 := by omega
  rcases h9 with rfl | rfl | rfl | rfl | rfl | rfl <;> rfl
/-- unknowns that units don't set -/
def pfree (u : Nat) : Bool := !(Nat.beq u 51 || (Nat.beq u 28 || (Nat.beq u 46 || (Nat.beq u 29 || Nat.beq u 8))))
def plo (e : sx_I) : Bool := e.2.all (fun q => pfree q.1)
theorem plo_1 : ∀ a b c : Bool, ([kc 40, kc 40] ++ wspan 37 11 12 a b c).all plo = true := by decide
theorem plo_2 : ∀ a b c : Bool, (wspan 32 33 34 a b c).all plo = true := by decide
theorem plo_g : ∀ g h : Bool, (wgh g h).all plo = true := by decide
theorem plo_a (q : Nat) : (wact q).all plo = true := by
  unfold wact
  split <;> rfl
theorem plo_m (k o : Nat) (t : Bool) : (wmost k o t).all plo = true := by
  unfold wmost
  rw [List.all_append, List.all_append]
  have h : ∀ n, (List.replicate n (kc 32)).all plo = true := fun n => by
    rw [List.all_eq_true]
    intro x hx
    rw [(List.mem_replicate.mp hx).2]
    rfl
  rw [h]
  cases t <;> rfl
theorem plo_t (a b c d e f g h : Bool) (q1 q2 : Nat) (t : Bool) : (wtext a b c d e f g h q1 q2 t).all plo = true := by
  unfold wtext
  simp only [List.all_append (xs := [kc 40, kc 40] ++ wspan 37 11 12 a b c), List.all_append (xs := wact q1), List.all_append (xs := wspan 32 33 34 d e f), List.all_append (xs := wact q2), List.all_append (xs := wgh g h), List.all_append (xs := [kc 41]), List.all_append (xs := [kc 92]), plo_1, plo_2, plo_g, plo_a, plo_m, Bool.true_and, Bool.and_true]
  rfl
theorem pth_in : ∀ {w : List sx_I} {i : Nat} {q : Nat × sx_I}, q ∈ pth i w → 220 ≤ q.1 ∧ q.2 ∈ w
  | [], _, _, h => (nomatch h)
  | e :: w, i, q, h => by
    have h : q ∈ (Nat.add 220 i, e) :: pth (Nat.succ i) w := h
    rcases List.mem_cons.mp h with rfl | h
    · exact ⟨Nat.le_add_right _ _, List.mem_cons_self⟩
    · exact ⟨(pth_in h).1, List.mem_cons_of_mem _ (pth_in h).2⟩
def pΘ (Θ : List (Nat × sx_I)) : Bool := Θ.all (fun q => !pfree q.1)
theorem pΘ_u {Θ : List (Nat × sx_I)} (h : pΘ Θ = true) {σ : Nat → Int} {u : Nat} (hu : pfree u = true) : sx_σi Θ σ u = σ u := gs_none (by
  cases e : sx_lk Θ u with
  | none => rfl
  | some v =>
    have h9 := List.all_eq_true.mp h _ (sx_lk_in e)
    simp only [hu] at h9
    cases h9)
theorem pΘ_e {Θ : List (Nat × sx_I)} (h : pΘ Θ = true) {σ : Nat → Int} {e : sx_I} (he : plo e = true) : sx_ev (sx_σi Θ σ) e = sx_ev σ e := gx_lI_ok (List.all_eq_true.mpr fun q hq => by
  have h1 := List.all_eq_true.mp he q hq
  cases e9 : sx_lk Θ q.1 with
  | none => rfl
  | some v =>
    have h9 := List.all_eq_true.mp h _ (sx_lk_in e9)
    simp only [h1] at h9
    cases h9)
theorem pfree_big {u : Nat} (h : 220 ≤ u) : pfree u = true := by
  have k : ∀ n : Nat, n < 220 → Nat.beq u n = false := fun n hn => by
    cases e : Nat.beq u n with
    | false => rfl
    | true => exact absurd (Nat.eq_of_beq_eq_true e) (by omega)
  unfold pfree
  rw [k 51 (by decide), k 28 (by decide), k 46 (by decide), k 29 (by decide), k 8 (by decide)]
  rfl
def pBall (a b c d e f g h t : Bool) : sx_Bs := [pB6 37 a, pB6 11 b, pB3 12 c, pB6 32 d, pB6 33 e, pB2 34 f, pB6 35 g, pB6 36 h] ++ cond t [(44, .ofNat 1, .ofNat 4), (45, .ofNat 0, .ofNat 9)] [(45, .ofNat 2, .ofNat 9)]
/-- what is known of the text while it is read -/
def pG (a b c d e f g h : Bool) (q1 q2 : Nat) (t : Bool) (σ : Nat → Int) : Prop := pP σ 0 (wtext a b c d e f g h q1 q2 t) ∧ sx_ev σ (szi (nz (Nat.add (Nat.add (Nat.add (k3 a b c) (k3 d e f)) (k2' g h)) (Nat.add (Nat.add (bN (wwide q1)) (bN (wwide q2))) (bN t))))) = σ 50 ∧ sx_okB σ (pBall a b c d e f g h t)
theorem pG_of {a b c d e f g h : Bool} {q1 q2 : Nat} {t : Bool} {σ : Nat → Int} {Θ : List (Nat × sx_I)} (hΘ : pΘ Θ = true) (hG : pG a b c d e f g h q1 q2 t σ) : pG a b c d e f g h q1 q2 t (sx_σi Θ σ) := by
  obtain ⟨g1, g2, g3⟩ := hG
  refine ⟨fun q hq => ?_, ?_, fun x hx => ?_⟩
  · obtain ⟨p1, p2⟩ := pth_in hq
    rw [pΘ_e hΘ (List.all_eq_true.mp (plo_t a b c d e f g h q1 q2 t) _ p2), pΘ_u hΘ (pfree_big p1)]
    exact g1 q hq
  · rw [pΘ_u hΘ (show pfree 50 = true from rfl), pΘ_e hΘ (by cases (nz (Nat.add (Nat.add (Nat.add (k3 a b c) (k3 d e f)) (k2' g h)) (Nat.add (Nat.add (bN (wwide q1)) (bN (wwide q2))) (bN t)))) <;> rfl)]
    exact g2
  · have h9 : pfree x.1 = true := by
      have k : (pBall a b c d e f g h t).all (fun x => pfree x.1) = true := by cases t <;> rfl
      exact List.all_eq_true.mp k x hx
    rw [pΘ_u hΘ h9]
    exact g3 x hx
theorem pB0 {σ : Nat → Int} : sx_okB σ [] := fun x hx => (nomatch hx)
theorem pB1 {σ : Nat → Int} {x : Nat × Int × Int} {B : sx_Bs} (h : x.2.1 ≤ σ x.1 ∧ σ x.1 ≤ x.2.2) (hB : sx_okB σ B) : sx_okB σ (x :: B) := fun y hy => by
  rcases List.mem_cons.mp hy with rfl | hy
  · exact h
  · exact hB y hy
theorem nz_le {n m : Nat} (h : n ≤ m) (hn : nz n = true) : nz m = true := by
  have h1 : 0 < n := Nat.le_of_ble_eq_true hn
  exact Nat.ble_eq_true_of_le (show 0 + 1 ≤ m by omega)
theorem pSz {σ : Nat → Int} {X f : Bool} (h : sx_ev σ (szi X) = σ 50) (hf : f = true → X = true) : (pBs f).2.1 ≤ σ (pBs f).1 ∧ σ (pBs f).1 ≤ (pBs f).2.2 := by
  have e : ∀ x : Bool, sx_ev σ (szi x) = cond x 60 40 := fun x => by cases x <;> rfl
  rw [e] at h
  show (cond f (60 : Int) 40) ≤ σ 50 ∧ σ 50 ≤ 60
  rw [← h]
  cases f with
  | false => cases X <;> decide
  | true => rw [hf rfl]; decide
theorem pcode_r (q : Nat) : (19 : Int) ≤ (pcode q : Int) ∧ (pcode q : Int) ≤ 39 := by
  unfold pcode
  split <;> decide
theorem prank_r (q : Nat) : (6 : Int) ≤ (prank q : Int) ∧ (prank q : Int) ≤ 9 := by
  unfold prank
  split <;> decide
section RD
variable {a b c d e f g h : Bool} {q1 q2 : Nat} {t : Bool} {σ : Nat → Int}
/-- the text's pieces -/
theorem pG_w (hq1 : q1 < 6) (hq2 : q2 < 6) (hG : pG a b c d e f g h q1 q2 t σ) : pP σ 0 ([kc 40, kc 40] ++ wspan 37 11 12 a b c) ∧ pP σ (Nat.add 15 (k3 a b c)) (wact q1 ++ [kc 40]) ∧ pP σ (Nat.add 16 (Nat.add (k3 a b c) (bN (wwide q1)))) (wspan 32 33 34 d e f) ∧ pP σ (Nat.add 29 (Nat.add (k3 a b c) (Nat.add (k3 d e f) (bN (wwide q1))))) [kc 41] ∧ pP σ (Nat.add 30 (Nat.add (k3 a b c) (Nat.add (k3 d e f) (bN (wwide q1))))) (wact q2 ++ [kc 40]) ∧ pP σ (Nat.add 31 (Nat.add (Nat.add (k3 a b c) (k3 d e f)) (Nat.add (bN (wwide q1)) (bN (wwide q2))))) (wgh g h) ∧ pP σ (Nat.add 36 (Nat.add (k3 a b c) (Nat.add (k3 d e f) (Nat.add (Nat.add (bN (wwide q1)) (bN (wwide q2))) (k2' g h))))) [kc 41] ∧ pP σ (Nat.add 37 (Nat.add (Nat.add (k3 a b c) (k3 d e f)) (Nat.add (Nat.add (bN (wwide q1)) (bN (wwide q2))) (k2' g h)))) [kc 92, kc 32] ∧ pP σ (Nat.add 38 (Nat.add (Nat.add (Nat.add (k3 a b c) (k3 d e f)) (k2' g h)) (Nat.add (bN (wwide q1)) (bN (wwide q2))))) (wmost (Nat.add (Nat.add (k3 a b c) (k3 d e f)) (k2' g h)) (Nat.add (bN (wwide q1)) (bN (wwide q2))) t) := by
  have l1 := ln_1 a b c
  have l2 := ln_2 d e f
  have lg := ln_g g h
  have la := ln_a hq1
  have lb := ln_a hq2
  obtain ⟨w1, r⟩ := pP_split (j := 15 + (k3 a b c)) hG.1 (by omega)
  obtain ⟨w2, r⟩ := pP_split (j := 16 + ((k3 a b c) + bN (wwide q1))) r (by omega)
  obtain ⟨w3, r⟩ := pP_split (j := 29 + ((k3 a b c) + ((k3 d e f) + bN (wwide q1)))) r (by omega)
  obtain ⟨w4, r⟩ := pP_split (j := 30 + ((k3 a b c) + ((k3 d e f) + bN (wwide q1)))) r (by show 29 + ((k3 a b c) + ((k3 d e f) + bN (wwide q1))) + 1 = _; omega)
  obtain ⟨w5, r⟩ := pP_split (j := 31 + (((k3 a b c) + (k3 d e f)) + (bN (wwide q1) + bN (wwide q2)))) r (by omega)
  obtain ⟨w6, r⟩ := pP_split (j := 36 + ((k3 a b c) + ((k3 d e f) + ((bN (wwide q1) + bN (wwide q2)) + (k2' g h))))) r (by omega)
  obtain ⟨w7, r⟩ := pP_split (j := 37 + (((k3 a b c) + (k3 d e f)) + ((bN (wwide q1) + bN (wwide q2)) + (k2' g h)))) r (by show 36 + ((k3 a b c) + ((k3 d e f) + ((bN (wwide q1) + bN (wwide q2)) + (k2' g h)))) + 1 = _; omega)
  obtain ⟨w8, w9⟩ := pP_split (j := 38 + ((((k3 a b c) + (k3 d e f)) + (k2' g h)) + (bN (wwide q1) + bN (wwide q2)))) r (by show 37 + (((k3 a b c) + (k3 d e f)) + ((bN (wwide q1) + bN (wwide q2)) + (k2' g h))) + 1 = _; omega)
  have first : ∀ {i : Nat} {x : sx_I} {y : List sx_I}, pP σ i ([x] ++ y) → pP σ i [x] := fun {i x y} h => (pP_split h rfl).1
  exact ⟨w1, pP_join w2 (first w3) (by simp only [Nat.add_eq]; omega), w3, w4, pP_join w5 (first w6) (by simp only [Nat.add_eq]; omega), w6, w7, pP_join (x := [kc 92]) (y := [kc 32]) w8 (first w9) (by show 37 + (((k3 a b c) + (k3 d e f)) + ((bN (wwide q1) + bN (wwide q2)) + (k2' g h))) + 1 = _; omega), w9⟩
/-- the reading, from its beginning to its end -/
theorem p_read {z : Nat → Nat} (hq1 : q1 < 6) (hq2 : q2 < 6) (hG : pG a b c d e f g h q1 q2 t σ) : ∃ σ1 : Nat → Int, (∀ u, pfree u = true → σ1 u = σ u) ∧ σ1 28 = (pcode q1 : Int) ∧ σ1 29 = (pcode q2 : Int) ∧ σ1 8 = sx_ev σ (emost t) ∧ gx_G 60 sm_X7_read 16 600 43 615 z σ (0, [(0, pI 40)], [], gx_mk pA0, 400) σ1 (63, [], [], gx_mk (pA10 a b c d e f g h), 400) := by
  obtain ⟨s1, hs1⟩ : ∃ s : Nat → Int, s = sx_σi [(51, (.ofNat 0, [(12, cond c (.negSucc 0) (.ofNat 1))]))] σ := ⟨_, rfl⟩
  have G1 : pG a b c d e f g h q1 q2 t s1 := by rw [hs1]; exact pG_of rfl hG
  obtain ⟨s2, hs2⟩ : ∃ s : Nat → Int, s = sx_σi [(28, (.ofNat (pcode q1), [])), (46, (.ofNat (prank q1), []))] s1 := ⟨_, rfl⟩
  have G2 : pG a b c d e f g h q1 q2 t s2 := by rw [hs2]; exact pG_of rfl G1
  obtain ⟨s3, hs3⟩ : ∃ s : Nat → Int, s = sx_σi [(51, (.ofNat 0, [(34, cond f (.negSucc 0) (.ofNat 1))]))] s2 := ⟨_, rfl⟩
  have G3 : pG a b c d e f g h q1 q2 t s3 := by rw [hs3]; exact pG_of rfl G2
  obtain ⟨s4, hs4⟩ : ∃ s : Nat → Int, s = sx_σi [] s3 := ⟨_, rfl⟩
  have G4 : pG a b c d e f g h q1 q2 t s4 := by rw [hs4]; exact pG_of rfl G3
  obtain ⟨s5, hs5⟩ : ∃ s : Nat → Int, s = sx_σi [(29, (.ofNat (pcode q2), [])), (46, (.ofNat (prank q2), []))] s4 := ⟨_, rfl⟩
  have G5 : pG a b c d e f g h q1 q2 t s5 := by rw [hs5]; exact pG_of rfl G4
  obtain ⟨s6, hs6⟩ : ∃ s : Nat → Int, s = sx_σi [(51, (.ofNat 0, [(36, cond h (.negSucc 0) (.ofNat 1))]))] s5 := ⟨_, rfl⟩
  have G6 : pG a b c d e f g h q1 q2 t s6 := by rw [hs6]; exact pG_of rfl G5
  obtain ⟨s7, hs7⟩ : ∃ s : Nat → Int, s = sx_σi [] s6 := ⟨_, rfl⟩
  have G7 : pG a b c d e f g h q1 q2 t s7 := by rw [hs7]; exact pG_of rfl G6
  obtain ⟨s8, hs8⟩ : ∃ s : Nat → Int, s = sx_σi [] s7 := ⟨_, rfl⟩
  have G8 : pG a b c d e f g h q1 q2 t s8 := by rw [hs8]; exact pG_of rfl G7
  obtain ⟨s9, hs9⟩ : ∃ s : Nat → Int, s = sx_σi [(8, emost t), (51, emost t)] s8 := ⟨_, rfl⟩
  have G9 : pG a b c d e f g h q1 q2 t s9 := by rw [hs9]; exact pG_of rfl G8
  obtain ⟨s10, hs10⟩ : ∃ s : Nat → Int, s = sx_σi [] s9 := ⟨_, rfl⟩
  have G10 : pG a b c d e f g h q1 q2 t s10 := by rw [hs10]; exact pG_of rfl G9
  have e2 : s2 28 = (pcode q1 : Int) ∧ s2 46 = (prank q1 : Int) := by rw [hs2]; exact ⟨(gs_some rfl).trans (by simp only [sx_ev, sx_evl, gs_ofNat]; omega), (gs_some rfl).trans (by simp only [sx_ev, sx_evl, gs_ofNat]; omega)⟩
  have e3 : s3 28 = (pcode q1 : Int) ∧ s3 46 = (prank q1 : Int) := by rw [hs3]; exact ⟨(gs_none rfl).trans e2.1, (gs_none rfl).trans e2.2⟩
  have e4 : s4 28 = (pcode q1 : Int) ∧ s4 46 = (prank q1 : Int) := by rw [hs4]; exact ⟨(gs_none rfl).trans e3.1, (gs_none rfl).trans e3.2⟩
  have e5 : s5 28 = (pcode q1 : Int) ∧ s5 29 = (pcode q2 : Int) ∧ s5 46 = (prank q2 : Int) := by rw [hs5]; exact ⟨(gs_none rfl).trans e4.1, (gs_some rfl).trans (by simp only [sx_ev, sx_evl, gs_ofNat]; omega), (gs_some rfl).trans (by simp only [sx_ev, sx_evl, gs_ofNat]; omega)⟩
  have e6 : s6 28 = (pcode q1 : Int) ∧ s6 29 = (pcode q2 : Int) ∧ s6 46 = (prank q2 : Int) := by rw [hs6]; exact ⟨(gs_none rfl).trans e5.1, (gs_none rfl).trans e5.2.1, (gs_none rfl).trans e5.2.2⟩
  have e7 : s7 28 = (pcode q1 : Int) ∧ s7 29 = (pcode q2 : Int) ∧ s7 46 = (prank q2 : Int) := by rw [hs7]; exact ⟨(gs_none rfl).trans e6.1, (gs_none rfl).trans e6.2.1, (gs_none rfl).trans e6.2.2⟩
  have e8 : s8 28 = (pcode q1 : Int) ∧ s8 29 = (pcode q2 : Int) ∧ s8 46 = (prank q2 : Int) := by rw [hs8]; exact ⟨(gs_none rfl).trans e7.1, (gs_none rfl).trans e7.2.1, (gs_none rfl).trans e7.2.2⟩
  have e9 : s9 28 = (pcode q1 : Int) ∧ s9 29 = (pcode q2 : Int) ∧ s9 46 = (prank q2 : Int) := by rw [hs9]; exact ⟨(gs_none rfl).trans e8.1, (gs_none rfl).trans e8.2.1, (gs_none rfl).trans e8.2.2⟩
  have e10 : s10 28 = (pcode q1 : Int) ∧ s10 29 = (pcode q2 : Int) ∧ s10 46 = (prank q2 : Int) := by rw [hs10]; exact ⟨(gs_none rfl).trans e9.1, (gs_none rfl).trans e9.2.1, (gs_none rfl).trans e9.2.2⟩
  have r1 := pcode_r q1
  have r2 := pcode_r q2
  have r3 := prank_r q1
  have r4 := prank_r q2
  have t1 := pw1 a b c (z := z) (σ := σ) (pB1 (hG.2.2 _ (by simp only [pBall, List.mem_append, List.mem_cons, true_or, or_true])) (pB1 (hG.2.2 _ (by simp only [pBall, List.mem_append, List.mem_cons, true_or, or_true])) (pB1 (hG.2.2 _ (by simp only [pBall, List.mem_append, List.mem_cons, true_or, or_true])) (pB1 (pSz hG.2.1 (fun e9 => nomatch e9)) pB0)))) (pG_w hq1 hq2 hG).1
  have T1 : gx_G 60 sm_X7_read 16 600 14 183 z σ (0, [(0, pI 40)], [], gx_mk pA0, 400) s1 (60, pLR (Nat.add 8 (k3 a b c)), [pI 40], gx_mk (pA1 a b c), 400) := ⟨fun u hu => by rw [hs1]; exact gs_lo rfl u hu, by rw [hs1]; exact t1⟩
  have t2 := pw2 a b c q1 (z := z) (σ := s1) hq1 (pB1 (pSz G1.2.1 (fun e9 => nomatch e9)) pB0) (pG_w hq1 hq2 G1).2.1
  have T2 : gx_G 60 sm_X7_read 16 600 1 14 z s1 (60, pLR (Nat.add 8 (k3 a b c)), [pI 40], gx_mk (pA1 a b c), 400) s2 (60, pLR (Nat.add 9 (k3 a b c)), [pI 40], gx_mk (pA2 a b c (wwide q1)), 400) := ⟨fun u hu => by rw [hs2]; exact gs_lo rfl u hu, by rw [hs2]; exact t2⟩
  have t3 := pw3 a b c (wwide q1) d e f (z := z) (σ := s2) (pB1 (G2.2.2 _ (by simp only [pBall, List.mem_append, List.mem_cons, true_or, or_true])) (pB1 (G2.2.2 _ (by simp only [pBall, List.mem_append, List.mem_cons, true_or, or_true])) (pB1 (G2.2.2 _ (by simp only [pBall, List.mem_append, List.mem_cons, true_or, or_true])) (pB1 (pSz G2.2.1 (fun e9 => nomatch e9)) (pB1 (by show (19 : Int) ≤ s2 28 ∧ s2 28 ≤ 39; omega) (pB1 (by show (6 : Int) ≤ s2 46 ∧ s2 46 ≤ 9; omega) pB0)))))) (pG_w hq1 hq2 G2).2.2.1
  have T3 : gx_G 60 sm_X7_read 16 600 12 160 z s2 (60, pLR (Nat.add 9 (k3 a b c)), [pI 40], gx_mk (pA2 a b c (wwide q1)), 400) s3 (60, pLR (Nat.add 16 (Nat.add (k3 a b c) (k3 d e f))), [pI 40], gx_mk (pA3 a b c (wwide q1) d e f), 400) := ⟨fun u hu => by rw [hs3]; exact gs_lo rfl u hu, by rw [hs3]; exact t3⟩
  have t4 := pw4 a b c (wwide q1) d e f (z := z) (σ := s3) (pB1 (pSz G3.2.1 (nz_le (show k3 a b c + (k3 d e f + bN (wwide q1)) ≤ ((k3 a b c + k3 d e f) + k2' g h) + ((bN (wwide q1) + bN (wwide q2)) + bN t) by omega))) (pB1 (by show (19 : Int) ≤ s3 28 ∧ s3 28 ≤ 39; omega) (pB1 (by show (6 : Int) ≤ s3 46 ∧ s3 46 ≤ 9; omega) pB0))) (pG_w hq1 hq2 G3).2.2.2.1
  have T4 : gx_G 60 sm_X7_read 16 600 0 0 z s3 (60, pLR (Nat.add 16 (Nat.add (k3 a b c) (k3 d e f))), [pI 40], gx_mk (pA3 a b c (wwide q1) d e f), 400) s4 (60, pLR (Nat.add 17 (Nat.add (k3 a b c) (k3 d e f))), [pI 40], gx_mk (pA4 a b c (wwide q1) d e f), 400) := ⟨fun u hu => by rw [hs4]; exact gs_lo rfl u hu, by rw [hs4]; exact t4⟩
  have t5 := pw5 a b c (wwide q1) d e f q2 (z := z) (σ := s4) hq2 (pB1 (pSz G4.2.1 (nz_le (show k3 a b c + (k3 d e f + (bN (wwide q1) + bN (wwide q2))) ≤ ((k3 a b c + k3 d e f) + k2' g h) + ((bN (wwide q1) + bN (wwide q2)) + bN t) by omega))) pB0) (pG_w hq1 hq2 G4).2.2.2.2.1
  have T5 : gx_G 60 sm_X7_read 16 600 2 36 z s4 (60, pLR (Nat.add 17 (Nat.add (k3 a b c) (k3 d e f))), [pI 40], gx_mk (pA4 a b c (wwide q1) d e f), 400) s5 (60, pLR (Nat.add 18 (Nat.add (k3 a b c) (k3 d e f))), [pI 40], gx_mk (pA5 a b c (wwide q1) d e f (wwide q2)), 400) := ⟨fun u hu => by rw [hs5]; exact gs_lo rfl u hu, by rw [hs5]; exact t5⟩
  have t6 := pw6 a b c (wwide q1) d e f (wwide q2) g h (z := z) (σ := s5) (pB1 (G5.2.2 _ (by simp only [pBall, List.mem_append, List.mem_cons, true_or, or_true])) (pB1 (G5.2.2 _ (by simp only [pBall, List.mem_append, List.mem_cons, true_or, or_true])) (pB1 (pSz G5.2.1 (nz_le (show (k3 a b c + k3 d e f) + ((bN (wwide q1) + bN (wwide q2)) + k2' g h) ≤ ((k3 a b c + k3 d e f) + k2' g h) + ((bN (wwide q1) + bN (wwide q2)) + bN t) by omega))) (pB1 (by show (19 : Int) ≤ s5 29 ∧ s5 29 ≤ 39; omega) (pB1 (by show (6 : Int) ≤ s5 46 ∧ s5 46 ≤ 9; omega) pB0))))) (pG_w hq1 hq2 G5).2.2.2.2.2.1
  have T6 : gx_G 60 sm_X7_read 16 600 9 128 z s5 (60, pLR (Nat.add 18 (Nat.add (k3 a b c) (k3 d e f))), [pI 40], gx_mk (pA5 a b c (wwide q1) d e f (wwide q2)), 400) s6 (60, pLR (Nat.add 23 (Nat.add (Nat.add (k3 a b c) (k3 d e f)) (k2' g h))), [pI 40], gx_mk (pA6 a b c (wwide q1) d e f (wwide q2) g h), 400) := ⟨fun u hu => by rw [hs6]; exact gs_lo rfl u hu, by rw [hs6]; exact t6⟩
  have t7 := pw7 a b c (wwide q1) d e f (wwide q2) g h t (z := z) (σ := s6) (pB1 (by show (19 : Int) ≤ s6 28 ∧ s6 28 ≤ 39; omega) (pB1 (by show (19 : Int) ≤ s6 29 ∧ s6 29 ≤ 39; omega) (pB1 (by show (6 : Int) ≤ s6 46 ∧ s6 46 ≤ 9; omega) pB0))) (fun x hx => by
    rcases List.mem_cons.mp hx with rfl | hx
    · exact G6.2.1
    · exact (pG_w hq1 hq2 G6).2.2.2.2.2.2.1 x hx)
  have T7 : gx_G 60 sm_X7_read 16 600 0 0 z s6 (60, pLR (Nat.add 23 (Nat.add (Nat.add (k3 a b c) (k3 d e f)) (k2' g h))), [pI 40], gx_mk (pA6 a b c (wwide q1) d e f (wwide q2) g h), 400) s7 (60, pLR (Nat.add 24 (Nat.add (Nat.add (k3 a b c) (k3 d e f)) (k2' g h))), [pI 40], gx_mk (pA7 a b c (wwide q1) d e f (wwide q2) g h), 400) := ⟨fun u hu => by rw [hs7]; exact gs_lo rfl u hu, by rw [hs7]; exact t7⟩
  have t8 := pw8 a b c (wwide q1) d e f (wwide q2) g h t (z := z) (σ := s7) pB0 (fun x hx => by
    rcases List.mem_cons.mp hx with rfl | hx
    · exact G7.2.1
    · exact (pG_w hq1 hq2 G7).2.2.2.2.2.2.2.1 x hx)
  have T8 : gx_G 60 sm_X7_read 16 600 2 36 z s7 (60, pLR (Nat.add 24 (Nat.add (Nat.add (k3 a b c) (k3 d e f)) (k2' g h))), [pI 40], gx_mk (pA7 a b c (wwide q1) d e f (wwide q2) g h), 400) s8 (60, pLR (Nat.add 25 (Nat.add (Nat.add (k3 a b c) (k3 d e f)) (k2' g h))), [pI 40], gx_mk (pA8 a b c (wwide q1) d e f (wwide q2) g h), 400) := ⟨fun u hu => by rw [hs8]; exact gs_lo rfl u hu, by rw [hs8]; exact t8⟩
  have t9 := pw9 a b c (wwide q1) d e f (wwide q2) g h t (z := z) (σ := s8) (by
    intro x hx
    have k9 : x ∈ pBall a b c d e f g h t := List.mem_append_right _ hx
    exact G8.2.2 x k9) (fun x hx => by
    rcases List.mem_cons.mp hx with rfl | hx
    · exact G8.2.1
    · exact (pG_w hq1 hq2 G8).2.2.2.2.2.2.2.2 x hx)
  have T9 : gx_G 60 sm_X7_read 16 600 3 58 z s8 (60, pLR (Nat.add 25 (Nat.add (Nat.add (k3 a b c) (k3 d e f)) (k2' g h))), [pI 40], gx_mk (pA8 a b c (wwide q1) d e f (wwide q2) g h), 400) s9 (4, pLR (Nat.add 27 (Nat.add (Nat.add (k3 a b c) (k3 d e f)) (k2' g h))), [], gx_mk (pA9 a b c d e f g h), 400) := ⟨fun u hu => by rw [hs9]; exact gs_lo rfl u hu, by rw [hs9]; exact t9⟩
  have t10 := pw10 a b c d e f g h (z := z) (σ := s9) (pB1 (by show (19 : Int) ≤ s9 29 ∧ s9 29 ≤ 39; omega) pB0) (fun x hx => nomatch hx)
  have T10 : gx_G 60 sm_X7_read 16 600 0 0 z s9 (4, pLR (Nat.add 27 (Nat.add (Nat.add (k3 a b c) (k3 d e f)) (k2' g h))), [], gx_mk (pA9 a b c d e f g h), 400) s10 (63, [], [], gx_mk (pA10 a b c d e f g h), 400) := ⟨fun u hu => by rw [hs10]; exact gs_lo rfl u hu, by rw [hs10]; exact t10⟩
  refine ⟨s10, fun u hu => ?_, e10.1, e10.2.1, ?_, (gx_G.tr (Nat.le_refl 60) (Nat.le_refl 60) (gx_G.tr (Nat.le_refl 60) (Nat.le_refl 60) (gx_G.tr (Nat.le_refl 60) (Nat.le_refl 60) (gx_G.tr (Nat.le_refl 60) (Nat.le_refl 60) (gx_G.tr (Nat.le_refl 60) (Nat.le_refl 60) (gx_G.tr (Nat.le_refl 60) (Nat.le_refl 60) (gx_G.tr (Nat.le_refl 60) (Nat.le_refl 60) (gx_G.tr (Nat.le_refl 60) (Nat.le_refl 60) (gx_G.tr (Nat.le_refl 60) (Nat.le_refl 60) T1 T2) T3) T4) T5) T6) T7) T8) T9) T10).mono (Nat.le_refl _) (Nat.le_refl _) (Nat.le_refl _) (by decide) (by decide)⟩
  · rw [hs10, pΘ_u rfl hu, hs9, pΘ_u rfl hu, hs8, pΘ_u rfl hu, hs7, pΘ_u rfl hu, hs6, pΘ_u rfl hu, hs5, pΘ_u rfl hu, hs4, pΘ_u rfl hu, hs3, pΘ_u rfl hu, hs2, pΘ_u rfl hu, hs1, pΘ_u rfl hu]
  · have k9 : s9 8 = sx_ev s8 (emost t) := by rw [hs9]; exact gs_some rfl
    rw [hs10]
    refine (gs_none rfl).trans (k9.trans ?_)
    have m9 : plo (emost t) = true := by cases t <;> rfl
    rw [hs8, pΘ_e rfl m9, hs7, pΘ_e rfl m9, hs6, pΘ_e rfl m9, hs5, pΘ_e rfl m9, hs4, pΘ_e rfl m9, hs3, pΘ_e rfl m9, hs2, pΘ_e rfl m9, hs1, pΘ_e rfl m9]
end RD
