/-! feeding, all the way -/
noncomputable def f_all : List f_T := f_ts0 ++ (f_ts1 ++ (f_ts2 ++ (f_ts3 ++ (f_ts4 ++ (f_ts5 ++ (f_ts6 ++ (f_ts7 ++ f_ts8)))))))
theorem f_all_ok : ∀ t ∈ f_all, f_ok t = true := by
  intro t ht
  unfold f_all at ht
  rcases List.mem_append.mp ht with h | ht
  · exact List.all_eq_true.mp f_ts0_ok t h
  rcases List.mem_append.mp ht with h | ht
  · exact List.all_eq_true.mp f_ts1_ok t h
  rcases List.mem_append.mp ht with h | ht
  · exact List.all_eq_true.mp f_ts2_ok t h
  rcases List.mem_append.mp ht with h | ht
  · exact List.all_eq_true.mp f_ts3_ok t h
  rcases List.mem_append.mp ht with h | ht
  · exact List.all_eq_true.mp f_ts4_ok t h
  rcases List.mem_append.mp ht with h | ht
  · exact List.all_eq_true.mp f_ts5_ok t h
  rcases List.mem_append.mp ht with h | ht
  · exact List.all_eq_true.mp f_ts6_ok t h
  rcases List.mem_append.mp ht with h | ht
  · exact List.all_eq_true.mp f_ts7_ok t h
  · exact List.all_eq_true.mp f_ts8_ok t ht
def f_is (r o : Nat) (V : List (Nat × sx_I)) (t : f_T) : Bool := Nat.beq t.1 r && Nat.beq t.2.2.1 o && decide (t.2.2.2.2.1 = V)
noncomputable def f_find (r o : Nat) (V : List (Nat × sx_I)) : Option f_T := f_all.find? (f_is r o V)
theorem f_find_ok {r o : Nat} {V : List (Nat × sx_I)} {t : f_T} (h : f_find r o V = some t) : t ∈ f_all ∧ t.1 = r ∧ t.2.2.1 = o ∧ t.2.2.2.2.1 = V := by
  have h1 := List.find?_some h
  unfold f_is at h1
  rw [Bool.and_eq_true, Bool.and_eq_true] at h1
  exact ⟨List.mem_of_find?_eq_some h, Nat.eq_of_beq_eq_true h1.1.1, Nat.eq_of_beq_eq_true h1.1.2, of_decide_eq_true h1.2⟩
/-- a stage: its rows, where it begins, where it ends, what numbers may be and their bounds -/
abbrev f_V : Type := List (Nat × sx_I) × sx_Bs
abbrev f_G : Type := Nat × Nat × List Nat × List Nat × List f_V
noncomputable def f_bytes (r o : Nat) (V : List (Nat × sx_I)) : List sx_I := match f_find r o V with
  | some t => t.2.2.2.2.2.2
  | none => []
noncomputable def f_gok1 (g : f_G) (o : Nat) (V : f_V) : Bool := match f_find g.1 o V.1 with
  | some t => Nat.beq t.2.1 g.2.1 && g.2.2.2.1.any (Nat.beq t.2.2.2.1) && Nat.beq t.2.2.2.1 (o + t.2.2.2.2.2.2.length) && decide (t.2.2.2.2.2.1 = V.2) && t.2.2.2.2.2.2.all (fun e => sx_in V.2 e 0 127) && Nat.blt o 60
  | none => false
noncomputable def f_gok (g : f_G) : Bool := g.2.2.1.all (fun o => g.2.2.2.2.all (fun V => f_gok1 g o V))
theorem f_Bn_ok {σ : Nat → Int} (hb : ∀ i, 200 ≤ i → i < 300 → 0 ≤ σ i ∧ σ i ≤ 127) {s : Nat} (hs : 200 ≤ s) : ∀ n, s + n ≤ 300 → sx_okB σ (f_Bn s n)
  | 0, _, q, hq => (nomatch hq)
  | n + 1, hn, q, hq => by
    rcases List.mem_cons.mp hq with rfl | hq
    · exact hb (s + n) (by omega) (by omega)
    · exact f_Bn_ok hb hs n (by omega) q hq
theorem f_gok_ok {g : f_G} (h : f_gok g = true) {o : Nat} {V : f_V} (ho : o ∈ g.2.2.1) (hV : V ∈ g.2.2.2.2) : (o + (f_bytes g.1 o V.1).length) ∈ g.2.2.2.1 ∧ (∀ e ∈ f_bytes g.1 o V.1, sx_in V.2 e 0 127 = true) ∧ ∀ (z : Nat → Nat) (σ : Nat → Int), sx_okB σ V.2 → (∀ q ∈ V.1, sx_ev σ q.2 = σ q.1) → (∀ i, 200 ≤ i → i < 300 → 0 ≤ σ i ∧ σ i ≤ 127) → (∀ q ∈ f_bs (220 + o) (f_bytes g.1 o V.1), sx_ev σ q.2 = σ q.1) → sx_Sg wsL_law sm_L_law 18 726 0 0 z σ (f_pt g.1 o) (f_pt g.2.1 (o + (f_bytes g.1 o V.1).length)) := by
  have h := List.all_eq_true.mp (List.all_eq_true.mp h o ho) V hV
  unfold f_gok1 at h
  unfold f_bytes
  cases hf : f_find g.1 o V.1 with
  | none => rw [hf] at h; cases h
  | some t =>
    rw [hf] at h
    have h : (Nat.beq t.2.1 g.2.1 && g.2.2.2.1.any (Nat.beq t.2.2.2.1) && Nat.beq t.2.2.2.1 (o + t.2.2.2.2.2.2.length) && decide (t.2.2.2.2.2.1 = V.2) && t.2.2.2.2.2.2.all (fun e => sx_in V.2 e 0 127) && Nat.blt o 60) = true := h
    rw [Bool.and_eq_true, Bool.and_eq_true, Bool.and_eq_true, Bool.and_eq_true, Bool.and_eq_true] at h
    obtain ⟨⟨⟨⟨⟨h1, h2⟩, h3⟩, h4⟩, h5⟩, h6⟩ := h
    have h6 : o < 60 := Nat.le_of_ble_eq_true h6
    obtain ⟨f1, f2, f3, f4⟩ := f_find_ok hf
    have h1 := Nat.eq_of_beq_eq_true h1
    have h3 := Nat.eq_of_beq_eq_true h3
    have h4 := of_decide_eq_true h4
    refine ⟨?_, fun e he => List.all_eq_true.mp h5 e he, fun z σ hB hV9 hb hbs => ?_⟩
    · obtain ⟨x, hx, hxe⟩ := List.any_eq_true.mp h2
      have := Nat.eq_of_beq_eq_true hxe
      show o + t.2.2.2.2.2.2.length ∈ _
      rw [← h3, this]
      exact hx
    · have := f_sg (f_all_ok t f1) (z := z) (σ := σ) (fun q hq => by
        unfold f_B at hq
        rw [h4] at hq
        rcases List.mem_append.mp hq with hq | hq
        · exact hB q hq
        · exact f_Bn_ok hb (by omega) 60 (by rw [f3]; omega) q hq) (by rw [f4]; exact hV9) (by rw [f3]; exact hbs)
      rw [f2, f3, h1, h3] at this
      exact this
/-- the whole text -/
noncomputable def f_txt : List f_G → List f_V → Nat → List sx_I
  | g :: gs, V :: Vs, o => f_bytes g.1 o V.1 ++ f_txt gs Vs (o + (f_bytes g.1 o V.1).length)
  | _, _, _ => []
/-- stages that follow each other -/
def f_seq : Nat → List Nat → List f_G → List f_V → Nat → List Nat → Prop
  | r, os, [], [], r', os' => r = r' ∧ os = os'
  | r, os, g :: gs, V :: Vs, r', os' => g.1 = r ∧ g.2.2.1 = os ∧ f_gok g = true ∧ V ∈ g.2.2.2.2 ∧ f_seq g.2.1 g.2.2.2.1 gs Vs r' os'
  | _, _, _, _, _, _ => False
theorem f_bs_app : ∀ (a b : List sx_I) (i : Nat), f_bs i (a ++ b) = f_bs i a ++ f_bs (i + a.length) b
  | [], b, i => rfl
  | e :: a, b, i => by
    show (i, e) :: f_bs (i + 1) (a ++ b) = (i, e) :: (f_bs (i + 1) a ++ f_bs (i + (a.length + 1)) b)
    rw [f_bs_app a b (i + 1), show i + 1 + a.length = i + (a.length + 1) by omega]
theorem f_chain {z : Nat → Nat} {σ : Nat → Int} (hb : ∀ i, 200 ≤ i → i < 300 → 0 ≤ σ i ∧ σ i ≤ 127) : ∀ (gs : List f_G) (Vs : List f_V) (r : Nat) (os : List Nat) (r' : Nat) (os' : List Nat) (o : Nat), f_seq r os gs Vs r' os' → o ∈ os → (∀ V ∈ Vs, sx_okB σ V.2 ∧ ∀ q ∈ V.1, sx_ev σ q.2 = σ q.1) → (∀ q ∈ f_bs (220 + o) (f_txt gs Vs o), sx_ev σ q.2 = σ q.1) → o + (f_txt gs Vs o).length ∈ os' ∧ sx_Sg wsL_law sm_L_law 18 726 0 0 z σ (f_pt r o) (f_pt r' (o + (f_txt gs Vs o).length))
  | [], [], r, os, r', os', o, hs, ho, _, _ => by
    obtain ⟨rfl, rfl⟩ := hs
    exact ⟨ho, sx_Sg.rf⟩
  | [], _ :: _, _, _, _, _, _, hs, _, _, _ => hs.elim
  | _ :: _, [], _, _, _, _, _, hs, _, _, _ => hs.elim
  | g :: gs, V :: Vs, r, os, r', os', o, hs, ho, hV, hbs => by
    obtain ⟨rfl, rfl, hg, hVg, hs⟩ := hs
    obtain ⟨a1, a2, a3⟩ := f_gok_ok hg ho hVg
    have e : f_txt (g :: gs) (V :: Vs) o = f_bytes g.1 o V.1 ++ f_txt gs Vs (o + (f_bytes g.1 o V.1).length) := rfl
    rw [e] at hbs ⊢
    rw [f_bs_app] at hbs
    obtain ⟨b1, b2⟩ := hV V List.mem_cons_self
    have c1 := a3 z σ b1 b2 hb (fun q hq => hbs q (List.mem_append_left _ hq))
    obtain ⟨d1, d2⟩ := f_chain hb gs Vs g.2.1 g.2.2.2.1 r' os' (o + (f_bytes g.1 o V.1).length) hs a1 (fun V hV9 => hV V (List.mem_cons_of_mem _ hV9)) (fun q hq => hbs q (List.mem_append_right _ (by rw [Nat.add_assoc] ; exact hq)))
    rw [List.length_append, ← Nat.add_assoc]
    exact ⟨d1, (c1.trans d2).mono (Nat.le_refl _) (Nat.le_refl _) (Nat.le_refl _) (Nat.le_refl _)⟩
def f_g0 : f_G := (121, 131, [0], [2], [([], [])])
theorem f_g0_ok : f_gok f_g0 = true := by decide +kernel
def f_g1 : f_G := (131, 142, [2], [15, 16, 17, 18], [([(20, (.ofNat 0, [(0, .ofNat 1)])), (21, (.ofNat 0, [(1, .ofNat 1)])), (26, (.ofNat 0, [(6, .ofNat 1)]))], [(0, .ofNat 0, .ofNat 6), (1, .ofNat 0, .ofNat 6), (6, .ofNat 1, .ofNat 3)]), ([(20, (.ofNat 0, [(0, .ofNat 1)])), (21, (.ofNat 0, [(1, .ofNat 1)])), (26, (.ofNat 0, [(6, .negSucc 0)]))], [(0, .ofNat 0, .ofNat 6), (1, .ofNat 0, .ofNat 6), (6, .ofNat 1, .ofNat 3)]), ([(20, (.ofNat 0, [(0, .ofNat 1)])), (21, (.ofNat 0, [(1, .negSucc 0)])), (26, (.ofNat 0, [(6, .ofNat 1)]))], [(0, .ofNat 0, .ofNat 6), (1, .ofNat 1, .ofNat 6), (6, .ofNat 1, .ofNat 3)]), ([(20, (.ofNat 0, [(0, .ofNat 1)])), (21, (.ofNat 0, [(1, .negSucc 0)])), (26, (.ofNat 0, [(6, .negSucc 0)]))], [(0, .ofNat 0, .ofNat 6), (1, .ofNat 1, .ofNat 6), (6, .ofNat 1, .ofNat 3)]), ([(20, (.ofNat 0, [(0, .negSucc 0)])), (21, (.ofNat 0, [(1, .ofNat 1)])), (26, (.ofNat 0, [(6, .ofNat 1)]))], [(0, .ofNat 1, .ofNat 6), (1, .ofNat 0, .ofNat 6), (6, .ofNat 1, .ofNat 3)]), ([(20, (.ofNat 0, [(0, .negSucc 0)])), (21, (.ofNat 0, [(1, .ofNat 1)])), (26, (.ofNat 0, [(6, .negSucc 0)]))], [(0, .ofNat 1, .ofNat 6), (1, .ofNat 0, .ofNat 6), (6, .ofNat 1, .ofNat 3)]), ([(20, (.ofNat 0, [(0, .negSucc 0)])), (21, (.ofNat 0, [(1, .negSucc 0)])), (26, (.ofNat 0, [(6, .ofNat 1)]))], [(0, .ofNat 1, .ofNat 6), (1, .ofNat 1, .ofNat 6), (6, .ofNat 1, .ofNat 3)]), ([(20, (.ofNat 0, [(0, .negSucc 0)])), (21, (.ofNat 0, [(1, .negSucc 0)])), (26, (.ofNat 0, [(6, .negSucc 0)]))], [(0, .ofNat 1, .ofNat 6), (1, .ofNat 1, .ofNat 6), (6, .ofNat 1, .ofNat 3)])])
theorem f_g1_ok : f_gok f_g1 = true := by decide +kernel
def f_g2 : f_G := (142, 147, [15, 16, 17, 18], [16, 17, 18, 19, 20], [([(28, (.ofNat 0, []))], []), ([(28, (.ofNat 1, []))], []), ([(28, (.ofNat 2, []))], []), ([(28, (.ofNat 3, []))], []), ([(28, (.ofNat 4, []))], []), ([(28, (.ofNat 5, []))], [])])
theorem f_g2_ok : f_gok f_g2 = true := by decide +kernel
def f_g3 : f_G := (147, 158, [16, 17, 18, 19, 20], [29, 30, 31, 32, 33, 34, 35, 36], [([(22, (.ofNat 0, [(2, .ofNat 1)])), (23, (.ofNat 0, [(3, .ofNat 1)])), (27, (.ofNat 0, [(7, .ofNat 1)]))], [(2, .ofNat 0, .ofNat 6), (3, .ofNat 0, .ofNat 6), (7, .ofNat 1, .ofNat 2)]), ([(22, (.ofNat 0, [(2, .ofNat 1)])), (23, (.ofNat 0, [(3, .ofNat 1)])), (27, (.ofNat 0, [(7, .negSucc 0)]))], [(2, .ofNat 0, .ofNat 6), (3, .ofNat 0, .ofNat 6), (7, .ofNat 1, .ofNat 2)]), ([(22, (.ofNat 0, [(2, .ofNat 1)])), (23, (.ofNat 0, [(3, .negSucc 0)])), (27, (.ofNat 0, [(7, .ofNat 1)]))], [(2, .ofNat 0, .ofNat 6), (3, .ofNat 1, .ofNat 6), (7, .ofNat 1, .ofNat 2)]), ([(22, (.ofNat 0, [(2, .ofNat 1)])), (23, (.ofNat 0, [(3, .negSucc 0)])), (27, (.ofNat 0, [(7, .negSucc 0)]))], [(2, .ofNat 0, .ofNat 6), (3, .ofNat 1, .ofNat 6), (7, .ofNat 1, .ofNat 2)]), ([(22, (.ofNat 0, [(2, .negSucc 0)])), (23, (.ofNat 0, [(3, .ofNat 1)])), (27, (.ofNat 0, [(7, .ofNat 1)]))], [(2, .ofNat 1, .ofNat 6), (3, .ofNat 0, .ofNat 6), (7, .ofNat 1, .ofNat 2)]), ([(22, (.ofNat 0, [(2, .negSucc 0)])), (23, (.ofNat 0, [(3, .ofNat 1)])), (27, (.ofNat 0, [(7, .negSucc 0)]))], [(2, .ofNat 1, .ofNat 6), (3, .ofNat 0, .ofNat 6), (7, .ofNat 1, .ofNat 2)]), ([(22, (.ofNat 0, [(2, .negSucc 0)])), (23, (.ofNat 0, [(3, .negSucc 0)])), (27, (.ofNat 0, [(7, .ofNat 1)]))], [(2, .ofNat 1, .ofNat 6), (3, .ofNat 1, .ofNat 6), (7, .ofNat 1, .ofNat 2)]), ([(22, (.ofNat 0, [(2, .negSucc 0)])), (23, (.ofNat 0, [(3, .negSucc 0)])), (27, (.ofNat 0, [(7, .negSucc 0)]))], [(2, .ofNat 1, .ofNat 6), (3, .ofNat 1, .ofNat 6), (7, .ofNat 1, .ofNat 2)])])
theorem f_g3_ok : f_gok f_g3 = true := by decide +kernel
def f_g4 : f_G := (158, 163, [29, 30, 31, 32, 33, 34, 35, 36], [30, 31, 32, 33, 34, 35, 36, 37], [([], [])])
theorem f_g4_ok : f_gok f_g4 = true := by decide +kernel
def f_g5 : f_G := (163, 168, [30, 31, 32, 33, 34, 35, 36, 37], [31, 32, 33, 34, 35, 36, 37, 38, 39], [([(29, (.ofNat 0, []))], []), ([(29, (.ofNat 1, []))], []), ([(29, (.ofNat 2, []))], []), ([(29, (.ofNat 3, []))], []), ([(29, (.ofNat 4, []))], []), ([(29, (.ofNat 5, []))], [])])
theorem f_g5_ok : f_gok f_g5 = true := by decide +kernel
def f_g6 : f_G := (168, 173, [31, 32, 33, 34, 35, 36, 37, 38, 39], [32, 33, 34, 35, 36, 37, 38, 39, 40], [([], [])])
theorem f_g6_ok : f_gok f_g6 = true := by decide +kernel
def f_g7 : f_G := (173, 181, [32, 33, 34, 35, 36, 37, 38, 39, 40], [33, 34, 35, 36, 37, 38, 39, 40, 41, 42], [([(24, (.ofNat 0, [(4, .ofNat 1)]))], [(4, .ofNat 0, .ofNat 6)]), ([(24, (.ofNat 0, [(4, .negSucc 0)]))], [(4, .ofNat 1, .ofNat 6)])])
theorem f_g7_ok : f_gok f_g7 = true := by decide +kernel
def f_g8 : f_G := (181, 186, [33, 34, 35, 36, 37, 38, 39, 40, 41, 42], [34, 35, 36, 37, 38, 39, 40, 41, 42, 43], [([], [])])
theorem f_g8_ok : f_gok f_g8 = true := by decide +kernel
def f_g9 : f_G := (186, 194, [34, 35, 36, 37, 38, 39, 40, 41, 42, 43], [35, 36, 37, 38, 39, 40, 41, 42, 43, 44, 45], [([(25, (.ofNat 0, [(5, .ofNat 1)]))], [(5, .ofNat 0, .ofNat 6)]), ([(25, (.ofNat 0, [(5, .negSucc 0)]))], [(5, .ofNat 1, .ofNat 6)])])
theorem f_g9_ok : f_gok f_g9 = true := by decide +kernel
def f_g10 : f_G := (194, 200, [35, 36, 37, 38, 39, 40, 41, 42, 43, 44, 45], [39, 40, 41, 42, 43, 44, 45, 46, 47, 48, 49], [([], [])])
theorem f_g10_ok : f_gok f_g10 = true := by decide +kernel
def f_g11 : f_G := (200, 206, [39, 40, 41, 42, 43, 44, 45, 46, 47, 48, 49], [40, 41, 42, 43, 44, 45, 46, 47, 48, 49, 50, 51], [([(30, (.ofNat 0, [(9, .ofNat 1)]))], [(9, .ofNat 2, .ofNat 9)]), ([(30, (.ofNat 0, [(8, .ofNat 10), (9, .ofNat 1)]))], [(8, .ofNat 1, .ofNat 4), (9, .ofNat 0, .ofNat 9)])])
theorem f_g11_ok : f_gok f_g11 = true := by decide +kernel
def f_g12 : f_G := (206, 210, [40, 41, 42, 43, 44, 45, 46, 47, 48, 49, 50, 51], [40, 60], [([], [])])
theorem f_g12_ok : f_gok f_g12 = true := by decide +kernel
