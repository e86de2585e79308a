/-! next, the entry of go, is, told and the law's own rows, on states in blocks -/
def gn_LB : List (Nat × sx_C) := [(0, .inl (14, [none, none, none, some (.inr (.inr (some (.inl 9)))), none, some (.inr (.inr (some (.inl 3)))), none, none, none, some (.inr (.inr (some (.inl 31)))), none])), (9, .inr (7, 3, false, [(0, .inr (.inr (some (.inl 1))))])), (30, .inr (0, 20, false, [(6, .inl (.inl (.ofNat 0, [(1020, .ofNat 1)]))), (7, .inl (.inl (.ofNat 0, [(1021, .ofNat 1)]))), (8, .inl (.inl (.ofNat 0, [(1022, .ofNat 1)]))), (9, .inl (.inl (.ofNat 0, [(1023, .ofNat 1)]))), (10, .inl (.inl (.ofNat 0, [(1024, .ofNat 1)]))), (11, .inl (.inl (.ofNat 0, [(1025, .ofNat 1)])))])), (31, .inr (1, 2100, false, [])), (32, .inr (1, 2100, false, [])), (33, .inr (0, 16, false, [])), (34, .inr (5, 13, false, [(3, .inr (.inr (some (.inl 35))))])), (35, .inl (13, [none, none, none, some (.inr (.inr (some (.inl 36)))), some (.inl (.inl (.ofNat 0, []))), none, none, none, none, none, none])), (36, .inr (1, 520, false, []))]
theorem gn_lb : bk_lb gn_LB = true := by decide +kernel
def kb_IDLE_0 : List (Nat × sx_C) := [(1, .inl (10, [some (.inr (.inr (some (.inl 3)))), none, some (.inr (.inr (some (.inl 2)))), none, none, none, none, none, none, none, none, none, none, some (.inr (.inr (some (.inl 12)))), none, none, some (.inl (.inl (.ofNat 0, []))), some (.inr (.inr none)), none, some (.inr (.inr (some (.inl 10)))), none])), (2, .inr (0, 18, false, [(0, .inl (.inl (.ofNat 0, []))), (1, .inl (.inl (.ofNat 0, [(19, .ofNat 1)]))), (14, .inl (.inl (.ofNat 1, []))), (17, .inl (.inl (.ofNat 0, [(21, .ofNat 1)])))])), (3, .inl (5, [some (.inr (.inr (some (.inl 7)))), none, none, some (.inr (.inr (some (.inl 6)))), none, some (.inr (.inr (some (.inl 34)))), some (.inr (.inr (some (.inl 33)))), none, none, some (.inr (.inr (some (.inl 32)))), none, some (.inr (.inr (some (.inl 4)))), some (.inr (.inr (some (.inl 5)))), none, none, none, none, none, some (.inl (.inl (.ofNat 0, [(20, .ofNat 1)]))), none, none])), (4, .inr (5, 32, false, [])), (5, .inr (5, 32, false, [])), (6, .inr (5, 22, false, [(8, .inr (.inr (some (.inl 8))))])), (7, .inl (13, [some (.inl (.inl (.ofNat 0, []))), none, none, none, none, none, none, none, none, none, none])), (8, .inl (13, [some (.inl (.inl (.ofNat 1, []))), some (.inr (.inl (.ofNat 0, []))), some (.inr (.inr none)), none, none, none, none, none, some (.inr (.inr none)), none, none])), (10, .inl (4, [some (.inr (.inr none)), some (.inr (.inr none)), none, none, some (.inr (.inr (some (.inl 13)))), some (.inr (.inr (some (.inl 11)))), some (.inr (.inr (some (.inl 12)))), none, none, none, none, none, some (.inl (.inl (.ofNat 15, []))), none, none, none, none])), (13, .inl (4, [some (.inr (.inr (some (.inl 15)))), some (.inr (.inr (some (.inl 10)))), some (.inr (.inr none)), some (.inr (.inr none)), some (.inr (.inr none)), some (.inr (.inr (some (.inl 11)))), some (.inr (.inr (some (.inl 12)))), none, none, none, none, none, some (.inl (.inl (.ofNat 0, []))), none, some (.inr (.inl (.ofNat 0, []))), none, none])), (14, .inl (13, [some (.inl (.inl (.ofNat 1, []))), some (.inr (.inl (.ofNat 0, [(8, .ofNat 1)]))), some (.inr (.inr none)), none, none, none, none, none, some (.inr (.inr none)), none, none])), (15, .inl (6, [some (.inl (.inl (.ofNat 5, []))), some (.inl (.inl (.ofNat 44, []))), none, none, some (.inl (.inl (.negSucc 0, []))), some (.inr (.inr (some (.inl 17)))), none, some (.inr (.inr none)), some (.inl (.inl (.ofNat 2, []))), none, some (.inr (.inr none)), none, none, none])), (16, .inl (6, [some (.inl (.inl (.ofNat 1, []))), some (.inl (.inl (.ofNat 0, []))), none, none, some (.inl (.inl (.negSucc 0, []))), some (.inr (.inr none)), none, some (.inr (.inr none)), some (.inl (.inl (.ofNat 0, []))), none, some (.inr (.inr (some (.inl 14)))), none, none, none])), (17, .inl (6, [some (.inl (.inl (.ofNat 5, []))), some (.inl (.inl (.ofNat 0, [(29, .ofNat 1)]))), none, none, some (.inl (.inl (.negSucc 0, []))), some (.inr (.inr (some (.inl 18)))), none, some (.inr (.inr (some (.inl 16)))), some (.inl (.inl (.ofNat 2, []))), none, some (.inr (.inr none)), none, none, none])), (18, .inl (6, [some (.inl (.inl (.ofNat 5, []))), some (.inl (.inl (.ofNat 0, [(28, .ofNat 1)]))), none, none, some (.inl (.inl (.negSucc 0, []))), some (.inr (.inr (some (.inl 19)))), none, some (.inr (.inr (some (.inl 21)))), some (.inl (.inl (.ofNat 2, []))), none, some (.inr (.inr none)), none, none, none])), (19, .inl (6, [some (.inl (.inl (.ofNat 5, []))), some (.inl (.inl (.ofNat 60, []))), none, none, some (.inl (.inl (.negSucc 0, []))), some (.inr (.inr (some (.inl 160)))), none, some (.inr (.inr (some (.inl 20)))), some (.inl (.inl (.ofNat 3, []))), none, some (.inr (.inr none)), none, none, none])), (20, .inl (6, [some (.inl (.inl (.ofNat 5, []))), some (.inl (.inl (.ofNat 60, []))), none, none, some (.inl (.inl (.negSucc 0, []))), some (.inr (.inr (some (.inl 100)))), none, some (.inr (.inr none)), some (.inl (.inl (.ofNat 3, []))), none, some (.inr (.inr none)), none, none, none])), (21, .inl (6, [some (.inl (.inl (.ofNat 5, []))), some (.inl (.inl (.ofNat 18, []))), none, none, some (.inl (.inl (.negSucc 0, []))), some (.inr (.inr (some (.inl 140)))), none, some (.inr (.inr none)), some (.inl (.inl (.ofNat 2, []))), none, some (.inr (.inr none)), none, none, none]))]
noncomputable def gp_IDLE (a b c d e f g h : Bool) (LB : List (Nat × sx_C)) : Nat → List (Nat × sx_C) := bk_f [kb_IDLE_0, g1a a b c, g2a d e f, g3a g h, gD0 d, gE0 e, gF0 f, gG0 g, gH0 h, [], [], [], [], [], LB]
theorem okb_idle : bk_ok 0 kb_IDLE_0 = true := by decide +kernel
theorem gpo_IDLE (a b c d e f g h : Bool) {LB : List (Nat × sx_C)} (hLB : bk_lb LB = true) : bk_OK (gp_IDLE a b c d e f g h LB) := bk_okf okb_idle (okb_1 a b c) (okb_2 d e f) (okb_3 g h) (okb_4 d) (okb_5 e) (okb_6 f) (okb_7 g) (okb_8 h) rfl rfl rfl rfl rfl (bk_lb_ok hLB)
theorem hM_next : ∃ mi, sx_p9 mi = some sm_X12_next := ⟨132, rfl⟩
theorem hM_told : ∃ mi, sx_p9 mi = some sm_X12_told := ⟨193, rfl⟩
theorem hM_is : ∃ mi, sx_p9 mi = some sm_L_is := ⟨213, rfl⟩
theorem hM_law : ∃ mi, sx_p9 mi = some sm_L_law := ⟨59, rfl⟩
theorem chk_n_2 : ∀ g h j r : Bool, bk_chk (xm_n_2) [((.ofNat 0, [(20, .ofNat 1)]), .ofNat 0, .ofNat 36000)] [(21, (0, []))] [0, 14] [] [(21, (.ofNat 1, []))] [] (0, [(0, .inr (.inr (some (.inl 0)))), (1, .inl (.inl (.ofNat 0, []))), (2, .inl (.inl (.ofNat 4000, [])))], [], kb_OPEN_0 g h j r ++ (gn_LB ++ ([])), 300) (34, [(0, .inr (.inr (some (.inl 0)))), (3, .inr (.inr (some (.inl 1))))], [.inl (.inl (.ofNat 4000, [])), .inr (.inr (some (.inl 1)))], kb_RO_0 j ++ (gn_LB ++ ([])), 300) = true := by decide +kernel
theorem okr_582 : ∀ a b c : Bool, bk_okR 290 [(21, (0, []))] (g1b a b c) = true := by decide +kernel
theorem okr_583 : ∀ d e f : Bool, bk_okR 290 [(21, (0, []))] (g2b d e f) = true := by decide +kernel
theorem okr_584 : ∀ g h j : Bool, bk_okR 290 [(21, (0, []))] (cond j (g3c g h) (g3b g h)) = true := by decide +kernel
theorem okr_585 : ∀ d y : Bool, bk_okR 290 [(21, (0, []))] (gD1 d y) = true := by decide +kernel
theorem okr_586 : ∀ e : Bool, bk_okR 290 [(21, (0, []))] (gE1 e) = true := by decide +kernel
theorem okr_587 : ∀ f : Bool, bk_okR 290 [(21, (0, []))] (gF1 f) = true := by decide +kernel
theorem okr_588 : ∀ g j : Bool, bk_okR 290 [(21, (0, []))] (cond j (gG0 g) (gG1 g)) = true := by decide +kernel
theorem okr_589 : ∀ h j : Bool, bk_okR 290 [(21, (0, []))] (cond j (gH1 h) (gH0 h)) = true := by decide +kernel
theorem okr_590 : ∀ d v y : Bool, bk_okR 290 [(21, (0, []))] (kb_QG_9 d v y) = true := by decide +kernel
theorem okr_591 : ∀ d e f y : Bool, bk_okR 290 [(21, (0, []))] (kb_QC_10 d e f y) = true := by decide +kernel
theorem okr_592 : ∀ y : Bool, bk_okR 290 [(21, (0, []))] (gY y) = true := by decide +kernel
theorem okr_593 : ∀ v : Bool, bk_okR 290 [(21, (0, []))] (gV v) = true := by decide +kernel
theorem okr_594 : ∀ r : Bool, bk_okR 290 [(21, (0, []))] (gW r) = true := by decide +kernel
theorem tn_n_2 (a b c d e f g h y v j r : Bool) {z : Nat → Nat} {σ : Nat → Int} (hF : bk_F σ [((.ofNat 0, [(20, .ofNat 1)]), .ofNat 0, .ofNat 36000)]) (hθ : ∀ q ∈ ([] : List (Nat × sx_I)), sx_ev σ q.2 = σ q.1) : gx_H 40 sm_X12_next 17 700 0 0 z σ (bk_pt 0 [(0, .inr (.inr (some (.inl 0)))), (1, .inl (.inl (.ofNat 0, []))), (2, .inl (.inl (.ofNat 4000, [])))] [] (gp_OPEN a b c d e f g h y v j r gn_LB) 300) (sx_σi [] σ) (bk_pt 34 [(0, .inr (.inr (some (.inl 0)))), (3, .inr (.inr (some (.inl 1))))] [.inl (.inl (.ofNat 4000, [])), .inr (.inr (some (.inl 1)))] (gp_RO a b c d e f g h y v j r gn_LB) 300) :=
  gx_H.mono (bk_T (d := xm_n_2) (z := z) (σ := σ) (B0 := (gp_OPEN a b c d e f g h y v j r gn_LB)) (B1 := (gp_RO a b c d e f g h y v j r gn_LB)) hM_next xmo_n_2 (tx := [0, 14]) (rx := [1, 2, 3, 4, 5, 6, 7, 8, 9, 10, 11, 12, 13]) (chk_n_2 g h j r) rfl rfl (gpo_OPEN a b c d e f g h y v j r gn_lb) (gpo_RO a b c d e f g h y v j r gn_lb) (by
    intro j hj
    simp only [List.mem_cons, List.not_mem_nil, or_false] at hj
    rcases hj with rfl | rfl | rfl | rfl | rfl | rfl | rfl | rfl | rfl | rfl | rfl | rfl | rfl
    · exact ⟨rfl, okr_582 a b c⟩
    · exact ⟨rfl, okr_583 d e f⟩
    · exact ⟨rfl, okr_584 g h j⟩
    · exact ⟨rfl, okr_585 d y⟩
    · exact ⟨rfl, okr_586 e⟩
    · exact ⟨rfl, okr_587 f⟩
    · exact ⟨rfl, okr_588 g j⟩
    · exact ⟨rfl, okr_589 h j⟩
    · exact ⟨rfl, okr_590 d v y⟩
    · exact ⟨rfl, okr_591 d e f y⟩
    · exact ⟨rfl, okr_592 y⟩
    · exact ⟨rfl, okr_593 v⟩
    · exact ⟨rfl, okr_594 r⟩) (bk_all_mem (.inl (by decide)) (.inr (.inl (by decide))) (.inr (.inl (by decide))) (.inr (.inl (by decide))) (.inr (.inl (by decide))) (.inr (.inl (by decide))) (.inr (.inl (by decide))) (.inr (.inl (by decide))) (.inr (.inl (by decide))) (.inr (.inl (by decide))) (.inr (.inl (by decide))) (.inr (.inl (by decide))) (.inr (.inl (by decide))) (.inr (.inl (by decide))) (.inl (by decide))) rfl rfl hF hθ) (Nat.le_of_ble_eq_true rfl) (Nat.le_refl _) (Nat.le_refl _) (Nat.le_of_ble_eq_true rfl) (Nat.le_of_ble_eq_true rfl)
theorem chk_n_1 : bk_chk (xm_n_1) [((.ofNat 0, [(20, .ofNat 1)]), .ofNat 0, .ofNat 36000)] [] [0, 14] [] [] [] (0, [(0, .inr (.inr (some (.inl 0)))), (1, .inl (.inl (.ofNat 0, []))), (2, .inl (.inl (.ofNat 4000, [])))], [], kb_IDLE_0 ++ (gn_LB ++ ([])), 300) (34, [(0, .inr (.inr (some (.inl 0)))), (3, .inr (.inr (some (.inl 1))))], [.inl (.inl (.ofNat 4000, [])), .inr (.inr (some (.inl 1)))], kb_NEW_0 ++ (gn_LB ++ ([])), 300) = true := by decide +kernel
theorem okr_595 : ∀ a b c : Bool, bk_okR 290 [] (g1a a b c) = true := by decide +kernel
theorem okr_596 : ∀ d e f : Bool, bk_okR 290 [] (g2a d e f) = true := by decide +kernel
theorem okr_597 : ∀ g h : Bool, bk_okR 290 [] (g3a g h) = true := by decide +kernel
theorem okr_598 : ∀ d : Bool, bk_okR 290 [] (gD0 d) = true := by decide +kernel
theorem okr_599 : ∀ e : Bool, bk_okR 290 [] (gE0 e) = true := by decide +kernel
theorem okr_600 : ∀ f : Bool, bk_okR 290 [] (gF0 f) = true := by decide +kernel
theorem okr_601 : ∀ g : Bool, bk_okR 290 [] (gG0 g) = true := by decide +kernel
theorem okr_602 : ∀ h : Bool, bk_okR 290 [] (gH0 h) = true := by decide +kernel
theorem tn_n_1 (a b c d e f g h  : Bool) {z : Nat → Nat} {σ : Nat → Int} (hF : bk_F σ [((.ofNat 0, [(20, .ofNat 1)]), .ofNat 0, .ofNat 36000)]) (hθ : ∀ q ∈ ([] : List (Nat × sx_I)), sx_ev σ q.2 = σ q.1) : gx_H 40 sm_X12_next 17 700 0 0 z σ (bk_pt 0 [(0, .inr (.inr (some (.inl 0)))), (1, .inl (.inl (.ofNat 0, []))), (2, .inl (.inl (.ofNat 4000, [])))] [] (gp_IDLE a b c d e f g h gn_LB) 300) (sx_σi [] σ) (bk_pt 34 [(0, .inr (.inr (some (.inl 0)))), (3, .inr (.inr (some (.inl 1))))] [.inl (.inl (.ofNat 4000, [])), .inr (.inr (some (.inl 1)))] (gp_NEW a b c d e f g h gn_LB) 300) :=
  gx_H.mono (bk_T (d := xm_n_1) (z := z) (σ := σ) (B0 := (gp_IDLE a b c d e f g h gn_LB)) (B1 := (gp_NEW a b c d e f g h gn_LB)) hM_next xmo_n_1 (tx := [0, 14]) (rx := [1, 2, 3, 4, 5, 6, 7, 8]) (chk_n_1) rfl rfl (gpo_IDLE a b c d e f g h gn_lb) (gpo_NEW a b c d e f g h gn_lb) (by
    intro j hj
    simp only [List.mem_cons, List.not_mem_nil, or_false] at hj
    rcases hj with rfl | rfl | rfl | rfl | rfl | rfl | rfl | rfl
    · exact ⟨rfl, okr_595 a b c⟩
    · exact ⟨rfl, okr_596 d e f⟩
    · exact ⟨rfl, okr_597 g h⟩
    · exact ⟨rfl, okr_598 d⟩
    · exact ⟨rfl, okr_599 e⟩
    · exact ⟨rfl, okr_600 f⟩
    · exact ⟨rfl, okr_601 g⟩
    · exact ⟨rfl, okr_602 h⟩) (bk_all_mem (.inl (by decide)) (.inr (.inl (by decide))) (.inr (.inl (by decide))) (.inr (.inl (by decide))) (.inr (.inl (by decide))) (.inr (.inl (by decide))) (.inr (.inl (by decide))) (.inr (.inl (by decide))) (.inr (.inl (by decide))) (.inr (.inr rfl)) (.inr (.inr rfl)) (.inr (.inr rfl)) (.inr (.inr rfl)) (.inr (.inr rfl)) (.inl (by decide))) rfl rfl hF hθ) (Nat.le_of_ble_eq_true rfl) (Nat.le_refl _) (Nat.le_refl _) (Nat.le_of_ble_eq_true rfl) (Nat.le_of_ble_eq_true rfl)
def xk_n_t0 : gx_D := ([], [100000], (35, [(0, .inr (.inr (some (.inl 0)))), (3, .inr (.inr (some (.inl 1))))], [], [(1, .inl (10, [none, none, some (.inr (.inr (some (.inl 2)))), none, none, none, none, none, none, none, none, none, none, some (.inr (.inr (some (.inl 12)))), none, none, none, some (.inr (.inr none)), none, none, none])), (2, .inr (0, 18, false, [(0, .inl (.inl (.ofNat 0, []))), (14, .inl (.inl (.ofNat 0, []))), (17, .inl (.inl (.ofNat 0, [])))]))], 300), 0, 0, 290, [], [], (39, [], [.inl (.inl (.ofNat 0, []))], [(1, .inl (10, [none, none, some (.inr (.inr (some (.inl 2)))), none, none, none, none, none, none, none, none, none, none, some (.inr (.inr (some (.inl 12)))), none, none, none, some (.inr (.inr none)), none, none, none])), (2, .inr (0, 18, false, [(0, .inl (.inl (.ofNat 0, []))), (14, .inl (.inl (.ofNat 0, []))), (17, .inl (.inl (.ofNat 0, [])))]))], 300))
theorem xko_n_t0 : gx_okD sm_X12_next 17 700 xk_n_t0 = true := by decide +kernel
def xk_n_t1 (r : Nat) : gx_D := ([], [100000], (35, [(0, .inr (.inr (some (.inl 0)))), (3, .inr (.inr (some (.inl 1))))], [], [(1, .inl (10, [some (.inr (.inr (some (.inl 3)))), none, some (.inr (.inr (some (.inl 2)))), none, none, none, none, none, none, none, none, none, none, some (.inr (.inr (some (.inl 12)))), none, none, some (.inl (.inl (.ofNat 0, []))), some (.inr (.inr none)), none, some (.inr (.inr (some (.inl 10)))), some (.inr (.inr (some (.inl r))))])), (2, .inr (0, 18, false, [(0, .inl (.inl (.ofNat 0, []))), (1, .inl (.inl (.ofNat 0, [(19, .ofNat 1)]))), (14, .inl (.inl (.ofNat 2, []))), (17, .inl (.inl (.ofNat 1, [])))]))], 300), 0, 0, 290, [], [], (39, [], [.inl (.inl (.ofNat 1, []))], [(1, .inl (10, [some (.inr (.inr (some (.inl 3)))), none, some (.inr (.inr (some (.inl 2)))), none, none, none, none, none, none, none, none, none, none, some (.inr (.inr (some (.inl 12)))), none, none, some (.inl (.inl (.ofNat 0, []))), some (.inr (.inr none)), none, some (.inr (.inr (some (.inl 10)))), some (.inr (.inr (some (.inl r))))])), (2, .inr (0, 18, false, [(0, .inl (.inl (.ofNat 0, []))), (1, .inl (.inl (.ofNat 0, [(19, .ofNat 1)]))), (14, .inl (.inl (.ofNat 2, []))), (17, .inl (.inl (.ofNat 1, [])))]))], 300))
theorem xko_n_t1 : ([281, 146, 271, 147, 272] : List Nat).all (fun r => gx_okD sm_X12_next 17 700 (xk_n_t1 r)) = true := by decide +kernel
def xk_is_00 (r : Nat) : gx_D := ([], [100000], (0, [(0, .inr (.inr (some (.inl 0)))), (1, .inr (.inl (.ofNat 0, [])))], [], [(0, .inl (14, [none, none, none, some (.inr (.inr (some (.inl 9)))), none, some (.inr (.inr (some (.inl 3)))), none, none, none, some (.inr (.inr (some (.inl 31)))), none])), (9, .inr (7, 3, false, [(0, .inr (.inr (some (.inl 1))))])), (1, .inl (10, [some (.inr (.inr (some (.inl 3)))), none, some (.inr (.inr (some (.inl 2)))), none, none, none, none, none, none, none, none, none, none, some (.inr (.inr (some (.inl 12)))), none, none, some (.inl (.inl (.ofNat 0, []))), some (.inr (.inr none)), none, some (.inr (.inr (some (.inl 10)))), some (.inr (.inr (some (.inl r))))])), (r, .inl (13, [some (.inl (.inl (.ofNat 1, []))), some (.inr (.inl (.ofNat 0, []))), some (.inr (.inr none)), none, none, none, none, none, some (.inr (.inr none)), none, none])), (3, .inl (5, [some (.inr (.inr (some (.inl 7)))), none, none, some (.inr (.inr (some (.inl 6)))), none, some (.inr (.inr (some (.inl 34)))), some (.inr (.inr (some (.inl 33)))), none, none, some (.inr (.inr (some (.inl 32)))), none, some (.inr (.inr (some (.inl 4)))), some (.inr (.inr (some (.inl 5)))), none, none, none, none, none, some (.inl (.inl (.ofNat 0, [(20, .ofNat 1)]))), none, none])), (31, .inr (1, 2100, false, [])), (32, .inr (1, 2100, false, [])), (33, .inr (0, 16, false, [])), (34, .inr (5, 13, false, [(3, .inr (.inr (some (.inl 35))))])), (35, .inl (13, [none, none, none, some (.inr (.inr (some (.inl 36)))), some (.inl (.inl (.ofNat 0, []))), none, none, none, none, none, none])), (36, .inr (1, 520, false, []))], 300), 0, 0, 290, [], [], (66, [], [.inl (.inl (.ofNat 1, []))], [(0, .inl (14, [none, none, none, some (.inr (.inr (some (.inl 9)))), none, some (.inr (.inr (some (.inl 3)))), none, none, none, some (.inr (.inr (some (.inl 31)))), none])), (9, .inr (7, 3, false, [(0, .inr (.inr (some (.inl 1))))])), (1, .inl (10, [some (.inr (.inr (some (.inl 3)))), none, some (.inr (.inr (some (.inl 2)))), none, none, none, none, none, none, none, none, none, none, some (.inr (.inr (some (.inl 12)))), none, none, some (.inl (.inl (.ofNat 0, []))), some (.inr (.inr none)), none, some (.inr (.inr (some (.inl 10)))), some (.inr (.inr (some (.inl r))))])), (r, .inl (13, [some (.inl (.inl (.ofNat 1, []))), some (.inr (.inl (.ofNat 0, []))), some (.inr (.inr none)), none, none, none, none, none, some (.inr (.inr none)), none, none])), (3, .inl (5, [some (.inr (.inr (some (.inl 7)))), none, none, some (.inr (.inr (some (.inl 6)))), none, some (.inr (.inr (some (.inl 34)))), some (.inr (.inr (some (.inl 33)))), none, none, some (.inr (.inr (some (.inl 32)))), none, some (.inr (.inr (some (.inl 4)))), some (.inr (.inr (some (.inl 5)))), none, none, none, none, none, some (.inl (.inl (.ofNat 0, [(20, .ofNat 1)]))), none, none])), (31, .inr (1, 2100, false, [])), (32, .inr (1, 2100, false, [])), (33, .inr (0, 16, false, [])), (34, .inr (5, 13, false, [(3, .inr (.inr (some (.inl 35))))])), (35, .inl (13, [none, none, none, some (.inr (.inr (some (.inl 36)))), some (.inl (.inl (.ofNat 0, []))), none, none, none, none, none, none])), (36, .inr (1, 520, false, []))], 300))
theorem xko_is_00 : ([281, 146, 271, 147, 272] : List Nat).all (fun r => gx_okD sm_L_is 17 690 (xk_is_00 r)) = true := by decide +kernel
def xk_is_01 (r : Nat) : gx_D := ([(43, .ofNat 1, .ofNat 9)], [100000], (0, [(0, .inr (.inr (some (.inl 0)))), (1, .inr (.inl (.ofNat 0, [(43, .ofNat 1)])))], [], [(0, .inl (14, [none, none, none, some (.inr (.inr (some (.inl 9)))), none, some (.inr (.inr (some (.inl 3)))), none, none, none, some (.inr (.inr (some (.inl 31)))), none])), (9, .inr (7, 3, false, [(0, .inr (.inr (some (.inl 1))))])), (1, .inl (10, [some (.inr (.inr (some (.inl 3)))), none, some (.inr (.inr (some (.inl 2)))), none, none, none, none, none, none, none, none, none, none, some (.inr (.inr (some (.inl 12)))), none, none, some (.inl (.inl (.ofNat 0, []))), some (.inr (.inr none)), none, some (.inr (.inr (some (.inl 10)))), some (.inr (.inr (some (.inl r))))])), (r, .inl (13, [some (.inl (.inl (.ofNat 1, []))), some (.inr (.inl (.ofNat 0, [(43, .ofNat 1)]))), some (.inr (.inr none)), none, none, none, none, none, some (.inr (.inr none)), none, none])), (3, .inl (5, [some (.inr (.inr (some (.inl 7)))), none, none, some (.inr (.inr (some (.inl 6)))), none, some (.inr (.inr (some (.inl 34)))), some (.inr (.inr (some (.inl 33)))), none, none, some (.inr (.inr (some (.inl 32)))), none, some (.inr (.inr (some (.inl 4)))), some (.inr (.inr (some (.inl 5)))), none, none, none, none, none, some (.inl (.inl (.ofNat 0, [(20, .ofNat 1)]))), none, none])), (31, .inr (1, 2100, false, [])), (32, .inr (1, 2100, false, [])), (33, .inr (0, 16, false, [])), (34, .inr (5, 13, false, [(3, .inr (.inr (some (.inl 35))))])), (35, .inl (13, [none, none, none, some (.inr (.inr (some (.inl 36)))), some (.inl (.inl (.ofNat 0, []))), none, none, none, none, none, none])), (36, .inr (1, 520, false, []))], 300), 0, 0, 290, [], [], (66, [], [.inl (.inl (.ofNat 1, []))], [(0, .inl (14, [none, none, none, some (.inr (.inr (some (.inl 9)))), none, some (.inr (.inr (some (.inl 3)))), none, none, none, some (.inr (.inr (some (.inl 31)))), none])), (9, .inr (7, 3, false, [(0, .inr (.inr (some (.inl 1))))])), (1, .inl (10, [some (.inr (.inr (some (.inl 3)))), none, some (.inr (.inr (some (.inl 2)))), none, none, none, none, none, none, none, none, none, none, some (.inr (.inr (some (.inl 12)))), none, none, some (.inl (.inl (.ofNat 0, []))), some (.inr (.inr none)), none, some (.inr (.inr (some (.inl 10)))), some (.inr (.inr (some (.inl r))))])), (r, .inl (13, [some (.inl (.inl (.ofNat 1, []))), some (.inr (.inl (.ofNat 0, [(43, .ofNat 1)]))), some (.inr (.inr none)), none, none, none, none, none, some (.inr (.inr none)), none, none])), (3, .inl (5, [some (.inr (.inr (some (.inl 7)))), none, none, some (.inr (.inr (some (.inl 6)))), none, some (.inr (.inr (some (.inl 34)))), some (.inr (.inr (some (.inl 33)))), none, none, some (.inr (.inr (some (.inl 32)))), none, some (.inr (.inr (some (.inl 4)))), some (.inr (.inr (some (.inl 5)))), none, none, none, none, none, some (.inl (.inl (.ofNat 0, [(20, .ofNat 1)]))), none, none])), (31, .inr (1, 2100, false, [])), (32, .inr (1, 2100, false, [])), (33, .inr (0, 16, false, [])), (34, .inr (5, 13, false, [(3, .inr (.inr (some (.inl 35))))])), (35, .inl (13, [none, none, none, some (.inr (.inr (some (.inl 36)))), some (.inl (.inl (.ofNat 0, []))), none, none, none, none, none, none])), (36, .inr (1, 520, false, []))], 300))
theorem xko_is_01 : ([281, 146, 271, 147, 272] : List Nat).all (fun r => gx_okD sm_L_is 17 690 (xk_is_01 r)) = true := by decide +kernel
def xk_is_02 (r : Nat) : gx_D := ([(42, .ofNat 1, .ofNat 9), (43, .ofNat 0, .ofNat 9)], [100000], (0, [(0, .inr (.inr (some (.inl 0)))), (1, .inr (.inl (.ofNat 0, [(42, .ofNat 10), (43, .ofNat 1)])))], [], [(0, .inl (14, [none, none, none, some (.inr (.inr (some (.inl 9)))), none, some (.inr (.inr (some (.inl 3)))), none, none, none, some (.inr (.inr (some (.inl 31)))), none])), (9, .inr (7, 3, false, [(0, .inr (.inr (some (.inl 1))))])), (1, .inl (10, [some (.inr (.inr (some (.inl 3)))), none, some (.inr (.inr (some (.inl 2)))), none, none, none, none, none, none, none, none, none, none, some (.inr (.inr (some (.inl 12)))), none, none, some (.inl (.inl (.ofNat 0, []))), some (.inr (.inr none)), none, some (.inr (.inr (some (.inl 10)))), some (.inr (.inr (some (.inl r))))])), (r, .inl (13, [some (.inl (.inl (.ofNat 1, []))), some (.inr (.inl (.ofNat 0, [(42, .ofNat 10), (43, .ofNat 1)]))), some (.inr (.inr none)), none, none, none, none, none, some (.inr (.inr none)), none, none])), (3, .inl (5, [some (.inr (.inr (some (.inl 7)))), none, none, some (.inr (.inr (some (.inl 6)))), none, some (.inr (.inr (some (.inl 34)))), some (.inr (.inr (some (.inl 33)))), none, none, some (.inr (.inr (some (.inl 32)))), none, some (.inr (.inr (some (.inl 4)))), some (.inr (.inr (some (.inl 5)))), none, none, none, none, none, some (.inl (.inl (.ofNat 0, [(20, .ofNat 1)]))), none, none])), (31, .inr (1, 2100, false, [])), (32, .inr (1, 2100, false, [])), (33, .inr (0, 16, false, [])), (34, .inr (5, 13, false, [(3, .inr (.inr (some (.inl 35))))])), (35, .inl (13, [none, none, none, some (.inr (.inr (some (.inl 36)))), some (.inl (.inl (.ofNat 0, []))), none, none, none, none, none, none])), (36, .inr (1, 520, false, []))], 300), 0, 0, 290, [], [], (66, [], [.inl (.inl (.ofNat 1, []))], [(0, .inl (14, [none, none, none, some (.inr (.inr (some (.inl 9)))), none, some (.inr (.inr (some (.inl 3)))), none, none, none, some (.inr (.inr (some (.inl 31)))), none])), (9, .inr (7, 3, false, [(0, .inr (.inr (some (.inl 1))))])), (1, .inl (10, [some (.inr (.inr (some (.inl 3)))), none, some (.inr (.inr (some (.inl 2)))), none, none, none, none, none, none, none, none, none, none, some (.inr (.inr (some (.inl 12)))), none, none, some (.inl (.inl (.ofNat 0, []))), some (.inr (.inr none)), none, some (.inr (.inr (some (.inl 10)))), some (.inr (.inr (some (.inl r))))])), (r, .inl (13, [some (.inl (.inl (.ofNat 1, []))), some (.inr (.inl (.ofNat 0, [(42, .ofNat 10), (43, .ofNat 1)]))), some (.inr (.inr none)), none, none, none, none, none, some (.inr (.inr none)), none, none])), (3, .inl (5, [some (.inr (.inr (some (.inl 7)))), none, none, some (.inr (.inr (some (.inl 6)))), none, some (.inr (.inr (some (.inl 34)))), some (.inr (.inr (some (.inl 33)))), none, none, some (.inr (.inr (some (.inl 32)))), none, some (.inr (.inr (some (.inl 4)))), some (.inr (.inr (some (.inl 5)))), none, none, none, none, none, some (.inl (.inl (.ofNat 0, [(20, .ofNat 1)]))), none, none])), (31, .inr (1, 2100, false, [])), (32, .inr (1, 2100, false, [])), (33, .inr (0, 16, false, [])), (34, .inr (5, 13, false, [(3, .inr (.inr (some (.inl 35))))])), (35, .inl (13, [none, none, none, some (.inr (.inr (some (.inl 36)))), some (.inl (.inl (.ofNat 0, []))), none, none, none, none, none, none])), (36, .inr (1, 520, false, []))], 300))
theorem xko_is_02 : ([281, 146, 271, 147, 272] : List Nat).all (fun r => gx_okD sm_L_is 17 690 (xk_is_02 r)) = true := by decide +kernel
def xk_is_03 (r : Nat) : gx_D := ([(41, .ofNat 1, .ofNat 9), (42, .ofNat 0, .ofNat 9), (43, .ofNat 0, .ofNat 9)], [100000], (0, [(0, .inr (.inr (some (.inl 0)))), (1, .inr (.inl (.ofNat 0, [(41, .ofNat 100), (42, .ofNat 10), (43, .ofNat 1)])))], [], [(0, .inl (14, [none, none, none, some (.inr (.inr (some (.inl 9)))), none, some (.inr (.inr (some (.inl 3)))), none, none, none, some (.inr (.inr (some (.inl 31)))), none])), (9, .inr (7, 3, false, [(0, .inr (.inr (some (.inl 1))))])), (1, .inl (10, [some (.inr (.inr (some (.inl 3)))), none, some (.inr (.inr (some (.inl 2)))), none, none, none, none, none, none, none, none, none, none, some (.inr (.inr (some (.inl 12)))), none, none, some (.inl (.inl (.ofNat 0, []))), some (.inr (.inr none)), none, some (.inr (.inr (some (.inl 10)))), some (.inr (.inr (some (.inl r))))])), (r, .inl (13, [some (.inl (.inl (.ofNat 1, []))), some (.inr (.inl (.ofNat 0, [(41, .ofNat 100), (42, .ofNat 10), (43, .ofNat 1)]))), some (.inr (.inr none)), none, none, none, none, none, some (.inr (.inr none)), none, none])), (3, .inl (5, [some (.inr (.inr (some (.inl 7)))), none, none, some (.inr (.inr (some (.inl 6)))), none, some (.inr (.inr (some (.inl 34)))), some (.inr (.inr (some (.inl 33)))), none, none, some (.inr (.inr (some (.inl 32)))), none, some (.inr (.inr (some (.inl 4)))), some (.inr (.inr (some (.inl 5)))), none, none, none, none, none, some (.inl (.inl (.ofNat 0, [(20, .ofNat 1)]))), none, none])), (31, .inr (1, 2100, false, [])), (32, .inr (1, 2100, false, [])), (33, .inr (0, 16, false, [])), (34, .inr (5, 13, false, [(3, .inr (.inr (some (.inl 35))))])), (35, .inl (13, [none, none, none, some (.inr (.inr (some (.inl 36)))), some (.inl (.inl (.ofNat 0, []))), none, none, none, none, none, none])), (36, .inr (1, 520, false, []))], 300), 0, 0, 290, [], [], (66, [], [.inl (.inl (.ofNat 1, []))], [(0, .inl (14, [none, none, none, some (.inr (.inr (some (.inl 9)))), none, some (.inr (.inr (some (.inl 3)))), none, none, none, some (.inr (.inr (some (.inl 31)))), none])), (9, .inr (7, 3, false, [(0, .inr (.inr (some (.inl 1))))])), (1, .inl (10, [some (.inr (.inr (some (.inl 3)))), none, some (.inr (.inr (some (.inl 2)))), none, none, none, none, none, none, none, none, none, none, some (.inr (.inr (some (.inl 12)))), none, none, some (.inl (.inl (.ofNat 0, []))), some (.inr (.inr none)), none, some (.inr (.inr (some (.inl 10)))), some (.inr (.inr (some (.inl r))))])), (r, .inl (13, [some (.inl (.inl (.ofNat 1, []))), some (.inr (.inl (.ofNat 0, [(41, .ofNat 100), (42, .ofNat 10), (43, .ofNat 1)]))), some (.inr (.inr none)), none, none, none, none, none, some (.inr (.inr none)), none, none])), (3, .inl (5, [some (.inr (.inr (some (.inl 7)))), none, none, some (.inr (.inr (some (.inl 6)))), none, some (.inr (.inr (some (.inl 34)))), some (.inr (.inr (some (.inl 33)))), none, none, some (.inr (.inr (some (.inl 32)))), none, some (.inr (.inr (some (.inl 4)))), some (.inr (.inr (some (.inl 5)))), none, none, none, none, none, some (.inl (.inl (.ofNat 0, [(20, .ofNat 1)]))), none, none])), (31, .inr (1, 2100, false, [])), (32, .inr (1, 2100, false, [])), (33, .inr (0, 16, false, [])), (34, .inr (5, 13, false, [(3, .inr (.inr (some (.inl 35))))])), (35, .inl (13, [none, none, none, some (.inr (.inr (some (.inl 36)))), some (.inl (.inl (.ofNat 0, []))), none, none, none, none, none, none])), (36, .inr (1, 520, false, []))], 300))
theorem xko_is_03 : ([281, 146, 271, 147, 272] : List Nat).all (fun r => gx_okD sm_L_is 17 690 (xk_is_03 r)) = true := by decide +kernel
def xk_is_11 (r : Nat) : gx_D := ([(43, .ofNat 1, .ofNat 9)], [100000], (0, [(0, .inr (.inr (some (.inl 0)))), (1, .inr (.inl (.ofNat 0, [(43, .negSucc 0)])))], [], [(0, .inl (14, [none, none, none, some (.inr (.inr (some (.inl 9)))), none, some (.inr (.inr (some (.inl 3)))), none, none, none, some (.inr (.inr (some (.inl 31)))), none])), (9, .inr (7, 3, false, [(0, .inr (.inr (some (.inl 1))))])), (1, .inl (10, [some (.inr (.inr (some (.inl 3)))), none, some (.inr (.inr (some (.inl 2)))), none, none, none, none, none, none, none, none, none, none, some (.inr (.inr (some (.inl 12)))), none, none, some (.inl (.inl (.ofNat 0, []))), some (.inr (.inr none)), none, some (.inr (.inr (some (.inl 10)))), some (.inr (.inr (some (.inl r))))])), (r, .inl (13, [some (.inl (.inl (.ofNat 1, []))), some (.inr (.inl (.ofNat 0, [(43, .negSucc 0)]))), some (.inr (.inr none)), none, none, none, none, none, some (.inr (.inr none)), none, none])), (3, .inl (5, [some (.inr (.inr (some (.inl 7)))), none, none, some (.inr (.inr (some (.inl 6)))), none, some (.inr (.inr (some (.inl 34)))), some (.inr (.inr (some (.inl 33)))), none, none, some (.inr (.inr (some (.inl 32)))), none, some (.inr (.inr (some (.inl 4)))), some (.inr (.inr (some (.inl 5)))), none, none, none, none, none, some (.inl (.inl (.ofNat 0, [(20, .ofNat 1)]))), none, none])), (31, .inr (1, 2100, false, [])), (32, .inr (1, 2100, false, [])), (33, .inr (0, 16, false, [])), (34, .inr (5, 13, false, [(3, .inr (.inr (some (.inl 35))))])), (35, .inl (13, [none, none, none, some (.inr (.inr (some (.inl 36)))), some (.inl (.inl (.ofNat 0, []))), none, none, none, none, none, none])), (36, .inr (1, 520, false, []))], 300), 0, 0, 290, [], [], (66, [], [.inl (.inl (.ofNat 1, []))], [(0, .inl (14, [none, none, none, some (.inr (.inr (some (.inl 9)))), none, some (.inr (.inr (some (.inl 3)))), none, none, none, some (.inr (.inr (some (.inl 31)))), none])), (9, .inr (7, 3, false, [(0, .inr (.inr (some (.inl 1))))])), (1, .inl (10, [some (.inr (.inr (some (.inl 3)))), none, some (.inr (.inr (some (.inl 2)))), none, none, none, none, none, none, none, none, none, none, some (.inr (.inr (some (.inl 12)))), none, none, some (.inl (.inl (.ofNat 0, []))), some (.inr (.inr none)), none, some (.inr (.inr (some (.inl 10)))), some (.inr (.inr (some (.inl r))))])), (r, .inl (13, [some (.inl (.inl (.ofNat 1, []))), some (.inr (.inl (.ofNat 0, [(43, .negSucc 0)]))), some (.inr (.inr none)), none, none, none, none, none, some (.inr (.inr none)), none, none])), (3, .inl (5, [some (.inr (.inr (some (.inl 7)))), none, none, some (.inr (.inr (some (.inl 6)))), none, some (.inr (.inr (some (.inl 34)))), some (.inr (.inr (some (.inl 33)))), none, none, some (.inr (.inr (some (.inl 32)))), none, some (.inr (.inr (some (.inl 4)))), some (.inr (.inr (some (.inl 5)))), none, none, none, none, none, some (.inl (.inl (.ofNat 0, [(20, .ofNat 1)]))), none, none])), (31, .inr (1, 2100, false, [])), (32, .inr (1, 2100, false, [])), (33, .inr (0, 16, false, [])), (34, .inr (5, 13, false, [(3, .inr (.inr (some (.inl 35))))])), (35, .inl (13, [none, none, none, some (.inr (.inr (some (.inl 36)))), some (.inl (.inl (.ofNat 0, []))), none, none, none, none, none, none])), (36, .inr (1, 520, false, []))], 300))
theorem xko_is_11 : ([281, 146, 271, 147, 272] : List Nat).all (fun r => gx_okD sm_L_is 17 690 (xk_is_11 r)) = true := by decide +kernel
def xk_is_12 (r : Nat) : gx_D := ([(42, .ofNat 1, .ofNat 9), (43, .ofNat 0, .ofNat 9)], [100000], (0, [(0, .inr (.inr (some (.inl 0)))), (1, .inr (.inl (.ofNat 0, [(42, .negSucc 9), (43, .negSucc 0)])))], [], [(0, .inl (14, [none, none, none, some (.inr (.inr (some (.inl 9)))), none, some (.inr (.inr (some (.inl 3)))), none, none, none, some (.inr (.inr (some (.inl 31)))), none])), (9, .inr (7, 3, false, [(0, .inr (.inr (some (.inl 1))))])), (1, .inl (10, [some (.inr (.inr (some (.inl 3)))), none, some (.inr (.inr (some (.inl 2)))), none, none, none, none, none, none, none, none, none, none, some (.inr (.inr (some (.inl 12)))), none, none, some (.inl (.inl (.ofNat 0, []))), some (.inr (.inr none)), none, some (.inr (.inr (some (.inl 10)))), some (.inr (.inr (some (.inl r))))])), (r, .inl (13, [some (.inl (.inl (.ofNat 1, []))), some (.inr (.inl (.ofNat 0, [(42, .negSucc 9), (43, .negSucc 0)]))), some (.inr (.inr none)), none, none, none, none, none, some (.inr (.inr none)), none, none])), (3, .inl (5, [some (.inr (.inr (some (.inl 7)))), none, none, some (.inr (.inr (some (.inl 6)))), none, some (.inr (.inr (some (.inl 34)))), some (.inr (.inr (some (.inl 33)))), none, none, some (.inr (.inr (some (.inl 32)))), none, some (.inr (.inr (some (.inl 4)))), some (.inr (.inr (some (.inl 5)))), none, none, none, none, none, some (.inl (.inl (.ofNat 0, [(20, .ofNat 1)]))), none, none])), (31, .inr (1, 2100, false, [])), (32, .inr (1, 2100, false, [])), (33, .inr (0, 16, false, [])), (34, .inr (5, 13, false, [(3, .inr (.inr (some (.inl 35))))])), (35, .inl (13, [none, none, none, some (.inr (.inr (some (.inl 36)))), some (.inl (.inl (.ofNat 0, []))), none, none, none, none, none, none])), (36, .inr (1, 520, false, []))], 300), 0, 0, 290, [], [], (66, [], [.inl (.inl (.ofNat 1, []))], [(0, .inl (14, [none, none, none, some (.inr (.inr (some (.inl 9)))), none, some (.inr (.inr (some (.inl 3)))), none, none, none, some (.inr (.inr (some (.inl 31)))), none])), (9, .inr (7, 3, false, [(0, .inr (.inr (some (.inl 1))))])), (1, .inl (10, [some (.inr (.inr (some (.inl 3)))), none, some (.inr (.inr (some (.inl 2)))), none, none, none, none, none, none, none, none, none, none, some (.inr (.inr (some (.inl 12)))), none, none, some (.inl (.inl (.ofNat 0, []))), some (.inr (.inr none)), none, some (.inr (.inr (some (.inl 10)))), some (.inr (.inr (some (.inl r))))])), (r, .inl (13, [some (.inl (.inl (.ofNat 1, []))), some (.inr (.inl (.ofNat 0, [(42, .negSucc 9), (43, .negSucc 0)]))), some (.inr (.inr none)), none, none, none, none, none, some (.inr (.inr none)), none, none])), (3, .inl (5, [some (.inr (.inr (some (.inl 7)))), none, none, some (.inr (.inr (some (.inl 6)))), none, some (.inr (.inr (some (.inl 34)))), some (.inr (.inr (some (.inl 33)))), none, none, some (.inr (.inr (some (.inl 32)))), none, some (.inr (.inr (some (.inl 4)))), some (.inr (.inr (some (.inl 5)))), none, none, none, none, none, some (.inl (.inl (.ofNat 0, [(20, .ofNat 1)]))), none, none])), (31, .inr (1, 2100, false, [])), (32, .inr (1, 2100, false, [])), (33, .inr (0, 16, false, [])), (34, .inr (5, 13, false, [(3, .inr (.inr (some (.inl 35))))])), (35, .inl (13, [none, none, none, some (.inr (.inr (some (.inl 36)))), some (.inl (.inl (.ofNat 0, []))), none, none, none, none, none, none])), (36, .inr (1, 520, false, []))], 300))
theorem xko_is_12 : ([281, 146, 271, 147, 272] : List Nat).all (fun r => gx_okD sm_L_is 17 690 (xk_is_12 r)) = true := by decide +kernel
def xk_is_13 (r : Nat) : gx_D := ([(41, .ofNat 1, .ofNat 9), (42, .ofNat 0, .ofNat 9), (43, .ofNat 0, .ofNat 9)], [100000], (0, [(0, .inr (.inr (some (.inl 0)))), (1, .inr (.inl (.ofNat 0, [(41, .negSucc 99), (42, .negSucc 9), (43, .negSucc 0)])))], [], [(0, .inl (14, [none, none, none, some (.inr (.inr (some (.inl 9)))), none, some (.inr (.inr (some (.inl 3)))), none, none, none, some (.inr (.inr (some (.inl 31)))), none])), (9, .inr (7, 3, false, [(0, .inr (.inr (some (.inl 1))))])), (1, .inl (10, [some (.inr (.inr (some (.inl 3)))), none, some (.inr (.inr (some (.inl 2)))), none, none, none, none, none, none, none, none, none, none, some (.inr (.inr (some (.inl 12)))), none, none, some (.inl (.inl (.ofNat 0, []))), some (.inr (.inr none)), none, some (.inr (.inr (some (.inl 10)))), some (.inr (.inr (some (.inl r))))])), (r, .inl (13, [some (.inl (.inl (.ofNat 1, []))), some (.inr (.inl (.ofNat 0, [(41, .negSucc 99), (42, .negSucc 9), (43, .negSucc 0)]))), some (.inr (.inr none)), none, none, none, none, none, some (.inr (.inr none)), none, none])), (3, .inl (5, [some (.inr (.inr (some (.inl 7)))), none, none, some (.inr (.inr (some (.inl 6)))), none, some (.inr (.inr (some (.inl 34)))), some (.inr (.inr (some (.inl 33)))), none, none, some (.inr (.inr (some (.inl 32)))), none, some (.inr (.inr (some (.inl 4)))), some (.inr (.inr (some (.inl 5)))), none, none, none, none, none, some (.inl (.inl (.ofNat 0, [(20, .ofNat 1)]))), none, none])), (31, .inr (1, 2100, false, [])), (32, .inr (1, 2100, false, [])), (33, .inr (0, 16, false, [])), (34, .inr (5, 13, false, [(3, .inr (.inr (some (.inl 35))))])), (35, .inl (13, [none, none, none, some (.inr (.inr (some (.inl 36)))), some (.inl (.inl (.ofNat 0, []))), none, none, none, none, none, none])), (36, .inr (1, 520, false, []))], 300), 0, 0, 290, [], [], (66, [], [.inl (.inl (.ofNat 1, []))], [(0, .inl (14, [none, none, none, some (.inr (.inr (some (.inl 9)))), none, some (.inr (.inr (some (.inl 3)))), none, none, none, some (.inr (.inr (some (.inl 31)))), none])), (9, .inr (7, 3, false, [(0, .inr (.inr (some (.inl 1))))])), (1, .inl (10, [some (.inr (.inr (some (.inl 3)))), none, some (.inr (.inr (some (.inl 2)))), none, none, none, none, none, none, none, none, none, none, some (.inr (.inr (some (.inl 12)))), none, none, some (.inl (.inl (.ofNat 0, []))), some (.inr (.inr none)), none, some (.inr (.inr (some (.inl 10)))), some (.inr (.inr (some (.inl r))))])), (r, .inl (13, [some (.inl (.inl (.ofNat 1, []))), some (.inr (.inl (.ofNat 0, [(41, .negSucc 99), (42, .negSucc 9), (43, .negSucc 0)]))), some (.inr (.inr none)), none, none, none, none, none, some (.inr (.inr none)), none, none])), (3, .inl (5, [some (.inr (.inr (some (.inl 7)))), none, none, some (.inr (.inr (some (.inl 6)))), none, some (.inr (.inr (some (.inl 34)))), some (.inr (.inr (some (.inl 33)))), none, none, some (.inr (.inr (some (.inl 32)))), none, some (.inr (.inr (some (.inl 4)))), some (.inr (.inr (some (.inl 5)))), none, none, none, none, none, some (.inl (.inl (.ofNat 0, [(20, .ofNat 1)]))), none, none])), (31, .inr (1, 2100, false, [])), (32, .inr (1, 2100, false, [])), (33, .inr (0, 16, false, [])), (34, .inr (5, 13, false, [(3, .inr (.inr (some (.inl 35))))])), (35, .inl (13, [none, none, none, some (.inr (.inr (some (.inl 36)))), some (.inl (.inl (.ofNat 0, []))), none, none, none, none, none, none])), (36, .inr (1, 520, false, []))], 300))
theorem xko_is_13 : ([281, 146, 271, 147, 272] : List Nat).all (fun r => gx_okD sm_L_is 17 690 (xk_is_13 r)) = true := by decide +kernel
theorem gp_r_mem : ∀ j g h r : Bool, gp_r j g h r ∈ ([281, 146, 271, 147, 272] : List Nat) := by decide
theorem hok_n_t1 : ∀ j g h r : Bool, gx_okD sm_X12_next 17 700 (xk_n_t1 (gp_r j g h r)) = true := fun j g h r => List.all_eq_true.mp xko_n_t1 (gp_r j g h r) (gp_r_mem j g h r)
theorem chk_n_t1 : ∀ g h j r : Bool, bk_chk (xk_n_t1 (gp_r j g h r)) [] [] [0] [] [] [] (35, [(0, .inr (.inr (some (.inl 0)))), (3, .inr (.inr (some (.inl 1))))], [], kb_OPEN_0 g h j r ++ ([]), 300) (39, [], [.inl (.inl (.ofNat 1, []))], kb_OPEN_0 g h j r ++ ([]), 300) = true := by decide +kernel
theorem okr_603 : ∀ a b c : Bool, bk_okR 290 [] (g1b a b c) = true := by decide +kernel
theorem okr_604 : ∀ d e f : Bool, bk_okR 290 [] (g2b d e f) = true := by decide +kernel
theorem okr_605 : ∀ g h j : Bool, bk_okR 290 [] (cond j (g3c g h) (g3b g h)) = true := by decide +kernel
theorem okr_606 : ∀ d y : Bool, bk_okR 290 [] (gD1 d y) = true := by decide +kernel
theorem okr_607 : ∀ e : Bool, bk_okR 290 [] (gE1 e) = true := by decide +kernel
theorem okr_608 : ∀ f : Bool, bk_okR 290 [] (gF1 f) = true := by decide +kernel
theorem okr_609 : ∀ g j : Bool, bk_okR 290 [] (cond j (gG0 g) (gG1 g)) = true := by decide +kernel
theorem okr_610 : ∀ h j : Bool, bk_okR 290 [] (cond j (gH1 h) (gH0 h)) = true := by decide +kernel
theorem okr_611 : ∀ d v y : Bool, bk_okR 290 [] (kb_QG_9 d v y) = true := by decide +kernel
theorem okr_612 : ∀ d e f y : Bool, bk_okR 290 [] (kb_QC_10 d e f y) = true := by decide +kernel
theorem okr_613 : ∀ y : Bool, bk_okR 290 [] (gY y) = true := by decide +kernel
theorem okr_614 : ∀ v : Bool, bk_okR 290 [] (gV v) = true := by decide +kernel
theorem okr_615 : ∀ r : Bool, bk_okR 290 [] (gW r) = true := by decide +kernel
theorem tn_n_t1 (a b c d e f g h y v j r : Bool) {z : Nat → Nat} {σ : Nat → Int} (hF : bk_F σ []) (hθ : ∀ q ∈ ([] : List (Nat × sx_I)), sx_ev σ q.2 = σ q.1) : gx_H 40 sm_X12_next 17 700 0 0 z σ (bk_pt 35 [(0, .inr (.inr (some (.inl 0)))), (3, .inr (.inr (some (.inl 1))))] [] (gp_OPEN a b c d e f g h y v j r gn_LB) 300) (sx_σi [] σ) (bk_pt 39 [] [.inl (.inl (.ofNat 1, []))] (gp_OPEN a b c d e f g h y v j r gn_LB) 300) :=
  gx_H.mono (bk_T (d := xk_n_t1 (gp_r j g h r)) (z := z) (σ := σ) (B0 := (gp_OPEN a b c d e f g h y v j r gn_LB)) (B1 := (gp_OPEN a b c d e f g h y v j r gn_LB)) hM_next (hok_n_t1 j g h r) (tx := [0]) (rx := [1, 2, 3, 4, 5, 6, 7, 8, 9, 10, 11, 12, 13, 14]) (chk_n_t1 g h j r) rfl rfl (gpo_OPEN a b c d e f g h y v j r gn_lb) (gpo_OPEN a b c d e f g h y v j r gn_lb) (by
    intro j hj
    simp only [List.mem_cons, List.not_mem_nil, or_false] at hj
    rcases hj with rfl | rfl | rfl | rfl | rfl | rfl | rfl | rfl | rfl | rfl | rfl | rfl | rfl | rfl
    · exact ⟨rfl, okr_603 a b c⟩
    · exact ⟨rfl, okr_604 d e f⟩
    · exact ⟨rfl, okr_605 g h j⟩
    · exact ⟨rfl, okr_606 d y⟩
    · exact ⟨rfl, okr_607 e⟩
    · exact ⟨rfl, okr_608 f⟩
    · exact ⟨rfl, okr_609 g j⟩
    · exact ⟨rfl, okr_610 h j⟩
    · exact ⟨rfl, okr_611 d v y⟩
    · exact ⟨rfl, okr_612 d e f y⟩
    · exact ⟨rfl, okr_613 y⟩
    · exact ⟨rfl, okr_614 v⟩
    · exact ⟨rfl, okr_615 r⟩
    · exact ⟨rfl, bk_lb_R gn_lb rfl rfl⟩) (bk_all_mem (.inl (by decide)) (.inr (.inl (by decide))) (.inr (.inl (by decide))) (.inr (.inl (by decide))) (.inr (.inl (by decide))) (.inr (.inl (by decide))) (.inr (.inl (by decide))) (.inr (.inl (by decide))) (.inr (.inl (by decide))) (.inr (.inl (by decide))) (.inr (.inl (by decide))) (.inr (.inl (by decide))) (.inr (.inl (by decide))) (.inr (.inl (by decide))) (.inr (.inl (by decide)))) rfl rfl hF hθ) (Nat.le_of_ble_eq_true rfl) (Nat.le_refl _) (Nat.le_refl _) (Nat.le_of_ble_eq_true rfl) (Nat.le_of_ble_eq_true rfl)
theorem chk_n_t0 : bk_chk (xk_n_t0) [] [] [0] [] [] [] (35, [(0, .inr (.inr (some (.inl 0)))), (3, .inr (.inr (some (.inl 1))))], [], kb_END_0 ++ ([]), 300) (39, [], [.inl (.inl (.ofNat 0, []))], kb_END_0 ++ ([]), 300) = true := by decide +kernel
theorem tn_n_t0 (a b c d e f g h  : Bool) {z : Nat → Nat} {σ : Nat → Int} (hF : bk_F σ []) (hθ : ∀ q ∈ ([] : List (Nat × sx_I)), sx_ev σ q.2 = σ q.1) : gx_H 40 sm_X12_next 17 700 0 0 z σ (bk_pt 35 [(0, .inr (.inr (some (.inl 0)))), (3, .inr (.inr (some (.inl 1))))] [] (gp_END a b c d e f g h gn_LB) 300) (sx_σi [] σ) (bk_pt 39 [] [.inl (.inl (.ofNat 0, []))] (gp_END a b c d e f g h gn_LB) 300) :=
  gx_H.mono (bk_T (d := xk_n_t0) (z := z) (σ := σ) (B0 := (gp_END a b c d e f g h gn_LB)) (B1 := (gp_END a b c d e f g h gn_LB)) hM_next xko_n_t0 (tx := [0]) (rx := [14]) (chk_n_t0) rfl rfl (gpo_END a b c d e f g h gn_lb) (gpo_END a b c d e f g h gn_lb) (by
    intro j hj
    cases List.mem_singleton.mp hj
    exact ⟨rfl, bk_lb_R gn_lb rfl rfl⟩) (bk_all_mem (.inl (by decide)) (.inr (.inr rfl)) (.inr (.inr rfl)) (.inr (.inr rfl)) (.inr (.inr rfl)) (.inr (.inr rfl)) (.inr (.inr rfl)) (.inr (.inr rfl)) (.inr (.inr rfl)) (.inr (.inr rfl)) (.inr (.inr rfl)) (.inr (.inr rfl)) (.inr (.inr rfl)) (.inr (.inr rfl)) (.inr (.inl (by decide)))) rfl rfl hF hθ) (Nat.le_of_ble_eq_true rfl) (Nat.le_refl _) (Nat.le_refl _) (Nat.le_of_ble_eq_true rfl) (Nat.le_of_ble_eq_true rfl)
theorem chk_n_z : bk_chk (xm_n_z) [] [] [0, 14] [] [] [] (0, [(0, .inr (.inr (some (.inl 0)))), (1, .inl (.inl (.ofNat 0, []))), (2, .inl (.inl (.ofNat 4000, [])))], [], kb_END_0 ++ (gn_LB ++ ([])), 300) (20, [], [.inl (.inl (.negSucc 1, []))], kb_END_0 ++ (gn_LB ++ ([])), 300) = true := by decide +kernel
theorem tn_n_z (a b c d e f g h  : Bool) {z : Nat → Nat} {σ : Nat → Int} (hF : bk_F σ []) (hθ : ∀ q ∈ ([] : List (Nat × sx_I)), sx_ev σ q.2 = σ q.1) : gx_H 40 sm_X12_next 17 700 0 0 z σ (bk_pt 0 [(0, .inr (.inr (some (.inl 0)))), (1, .inl (.inl (.ofNat 0, []))), (2, .inl (.inl (.ofNat 4000, [])))] [] (gp_END a b c d e f g h gn_LB) 300) (sx_σi [] σ) (bk_pt 20 [] [.inl (.inl (.negSucc 1, []))] (gp_END a b c d e f g h gn_LB) 300) :=
  gx_H.mono (bk_T (d := xm_n_z) (z := z) (σ := σ) (B0 := (gp_END a b c d e f g h gn_LB)) (B1 := (gp_END a b c d e f g h gn_LB)) hM_next xmo_n_z (tx := [0, 14]) (rx := []) (chk_n_z) rfl rfl (gpo_END a b c d e f g h gn_lb) (gpo_END a b c d e f g h gn_lb) (by
    intro j hj
    cases hj) (bk_all_mem (.inl (by decide)) (.inr (.inr rfl)) (.inr (.inr rfl)) (.inr (.inr rfl)) (.inr (.inr rfl)) (.inr (.inr rfl)) (.inr (.inr rfl)) (.inr (.inr rfl)) (.inr (.inr rfl)) (.inr (.inr rfl)) (.inr (.inr rfl)) (.inr (.inr rfl)) (.inr (.inr rfl)) (.inr (.inr rfl)) (.inl (by decide))) rfl rfl hF hθ) (Nat.le_of_ble_eq_true rfl) (Nat.le_refl _) (Nat.le_refl _) (Nat.le_of_ble_eq_true rfl) (Nat.le_of_ble_eq_true rfl)
theorem chk_n_o : bk_chk (xm_n_o) [] [] [0, 14] [] [] [] (0, [(0, .inr (.inr (some (.inl 0)))), (1, .inl (.inl (.ofNat 0, []))), (2, .inl (.inl (.ofNat 0, [])))], [], kb_END_0 ++ (gn_LB ++ ([])), 300) (16, [], [.inl (.inl (.ofNat 0, []))], kb_END_0 ++ (gn_LB ++ ([])), 300) = true := by decide +kernel
theorem tn_n_o (a b c d e f g h  : Bool) {z : Nat → Nat} {σ : Nat → Int} (hF : bk_F σ []) (hθ : ∀ q ∈ ([] : List (Nat × sx_I)), sx_ev σ q.2 = σ q.1) : gx_H 40 sm_X12_told 17 700 0 0 z σ (bk_pt 0 [(0, .inr (.inr (some (.inl 0)))), (1, .inl (.inl (.ofNat 0, []))), (2, .inl (.inl (.ofNat 0, [])))] [] (gp_END a b c d e f g h gn_LB) 300) (sx_σi [] σ) (bk_pt 16 [] [.inl (.inl (.ofNat 0, []))] (gp_END a b c d e f g h gn_LB) 300) :=
  gx_H.mono (bk_T (d := xm_n_o) (z := z) (σ := σ) (B0 := (gp_END a b c d e f g h gn_LB)) (B1 := (gp_END a b c d e f g h gn_LB)) hM_told xmo_n_o (tx := [0, 14]) (rx := []) (chk_n_o) rfl rfl (gpo_END a b c d e f g h gn_lb) (gpo_END a b c d e f g h gn_lb) (by
    intro j hj
    cases hj) (bk_all_mem (.inl (by decide)) (.inr (.inr rfl)) (.inr (.inr rfl)) (.inr (.inr rfl)) (.inr (.inr rfl)) (.inr (.inr rfl)) (.inr (.inr rfl)) (.inr (.inr rfl)) (.inr (.inr rfl)) (.inr (.inr rfl)) (.inr (.inr rfl)) (.inr (.inr rfl)) (.inr (.inr rfl)) (.inr (.inr rfl)) (.inl (by decide))) rfl rfl hF hθ) (Nat.le_of_ble_eq_true rfl) (Nat.le_refl _) (Nat.le_refl _) (Nat.le_of_ble_eq_true rfl) (Nat.le_of_ble_eq_true rfl)
theorem chk_go_RO : bk_chk (xm_go0) [] [(17, (0, [])), (18, (0, []))] [] [] [] [(17, (.ofNat 4000, [])), (18, (.ofNat 0, []))] (0, [(0, .inr (.inr (some (.inl 1)))), (1, .inl (.inl (.ofNat 4000, [])))], [], [], 300) (4, xL, [], [], 300) = true := by decide +kernel
theorem okr_616 : ∀ j : Bool, bk_okR 290 [(17, (0, [])), (18, (0, []))] (kb_RO_0 j) = true := by decide +kernel
theorem okr_617 : ∀ a b c : Bool, bk_okR 290 [(17, (0, [])), (18, (0, []))] (g1b a b c) = true := by decide +kernel
theorem okr_618 : ∀ d e f : Bool, bk_okR 290 [(17, (0, [])), (18, (0, []))] (g2b d e f) = true := by decide +kernel
theorem okr_619 : ∀ g h j : Bool, bk_okR 290 [(17, (0, [])), (18, (0, []))] (cond j (g3c g h) (g3b g h)) = true := by decide +kernel
theorem okr_620 : ∀ d y : Bool, bk_okR 290 [(17, (0, [])), (18, (0, []))] (gD1 d y) = true := by decide +kernel
theorem okr_621 : ∀ e : Bool, bk_okR 290 [(17, (0, [])), (18, (0, []))] (gE1 e) = true := by decide +kernel
theorem okr_622 : ∀ f : Bool, bk_okR 290 [(17, (0, [])), (18, (0, []))] (gF1 f) = true := by decide +kernel
theorem okr_623 : ∀ g j : Bool, bk_okR 290 [(17, (0, [])), (18, (0, []))] (cond j (gG0 g) (gG1 g)) = true := by decide +kernel
theorem okr_624 : ∀ h j : Bool, bk_okR 290 [(17, (0, [])), (18, (0, []))] (cond j (gH1 h) (gH0 h)) = true := by decide +kernel
theorem okr_625 : ∀ d v y : Bool, bk_okR 290 [(17, (0, [])), (18, (0, []))] (kb_QG_9 d v y) = true := by decide +kernel
theorem okr_626 : ∀ d e f y : Bool, bk_okR 290 [(17, (0, [])), (18, (0, []))] (kb_QC_10 d e f y) = true := by decide +kernel
theorem okr_627 : ∀ y : Bool, bk_okR 290 [(17, (0, [])), (18, (0, []))] (gY y) = true := by decide +kernel
theorem okr_628 : ∀ v : Bool, bk_okR 290 [(17, (0, [])), (18, (0, []))] (gV v) = true := by decide +kernel
theorem okr_629 : ∀ r : Bool, bk_okR 290 [(17, (0, [])), (18, (0, []))] (gW r) = true := by decide +kernel
theorem tn_go_RO (a b c d e f g h y v j r : Bool) {z : Nat → Nat} {σ : Nat → Int} (hF : bk_F σ []) (hθ : ∀ q ∈ ([] : List (Nat × sx_I)), sx_ev σ q.2 = σ q.1) : gx_H 40 sm_X8_go 16 650 0 0 z σ (bk_pt 0 [(0, .inr (.inr (some (.inl 1)))), (1, .inl (.inl (.ofNat 4000, [])))] [] (gp_RO a b c d e f g h y v j r gn_LB) 300) (sx_σi [(17, (.ofNat 4000, [])), (18, (.ofNat 0, []))] σ) (bk_pt 4 xL [] (gp_RO a b c d e f g h y v j r gn_LB) 300) :=
  gx_H.mono (bk_T (d := xm_go0) (z := z) (σ := σ) (B0 := (gp_RO a b c d e f g h y v j r gn_LB)) (B1 := (gp_RO a b c d e f g h y v j r gn_LB)) hM_go xmo_go0 (tx := []) (rx := [0, 1, 2, 3, 4, 5, 6, 7, 8, 9, 10, 11, 12, 13, 14]) (chk_go_RO) rfl rfl (gpo_RO a b c d e f g h y v j r gn_lb) (gpo_RO a b c d e f g h y v j r gn_lb) (by
    intro j hj
    simp only [List.mem_cons, List.not_mem_nil, or_false] at hj
    rcases hj with rfl | rfl | rfl | rfl | rfl | rfl | rfl | rfl | rfl | rfl | rfl | rfl | rfl | rfl | rfl
    · exact ⟨rfl, okr_616 j⟩
    · exact ⟨rfl, okr_617 a b c⟩
    · exact ⟨rfl, okr_618 d e f⟩
    · exact ⟨rfl, okr_619 g h j⟩
    · exact ⟨rfl, okr_620 d y⟩
    · exact ⟨rfl, okr_621 e⟩
    · exact ⟨rfl, okr_622 f⟩
    · exact ⟨rfl, okr_623 g j⟩
    · exact ⟨rfl, okr_624 h j⟩
    · exact ⟨rfl, okr_625 d v y⟩
    · exact ⟨rfl, okr_626 d e f y⟩
    · exact ⟨rfl, okr_627 y⟩
    · exact ⟨rfl, okr_628 v⟩
    · exact ⟨rfl, okr_629 r⟩
    · exact ⟨rfl, bk_lb_R gn_lb rfl rfl⟩) (bk_all_mem (.inr (.inl (by decide))) (.inr (.inl (by decide))) (.inr (.inl (by decide))) (.inr (.inl (by decide))) (.inr (.inl (by decide))) (.inr (.inl (by decide))) (.inr (.inl (by decide))) (.inr (.inl (by decide))) (.inr (.inl (by decide))) (.inr (.inl (by decide))) (.inr (.inl (by decide))) (.inr (.inl (by decide))) (.inr (.inl (by decide))) (.inr (.inl (by decide))) (.inr (.inl (by decide)))) rfl rfl hF hθ) (Nat.le_of_ble_eq_true rfl) (Nat.le_refl _) (Nat.le_refl _) (Nat.le_of_ble_eq_true rfl) (Nat.le_of_ble_eq_true rfl)
theorem chk_go_NEW : bk_chk (xm_go0) [] [(17, (0, [])), (18, (0, []))] [] [] [] [(17, (.ofNat 4000, [])), (18, (.ofNat 0, []))] (0, [(0, .inr (.inr (some (.inl 1)))), (1, .inl (.inl (.ofNat 4000, [])))], [], [], 300) (4, xL, [], [], 300) = true := by decide +kernel
theorem okr_630 : bk_okR 290 [(17, (0, [])), (18, (0, []))] (kb_NEW_0) = true := by decide +kernel
theorem okr_631 : ∀ a b c : Bool, bk_okR 290 [(17, (0, [])), (18, (0, []))] (g1a a b c) = true := by decide +kernel
theorem okr_632 : ∀ d e f : Bool, bk_okR 290 [(17, (0, [])), (18, (0, []))] (g2a d e f) = true := by decide +kernel
theorem okr_633 : ∀ g h : Bool, bk_okR 290 [(17, (0, [])), (18, (0, []))] (g3a g h) = true := by decide +kernel
theorem okr_634 : ∀ d : Bool, bk_okR 290 [(17, (0, [])), (18, (0, []))] (gD0 d) = true := by decide +kernel
theorem okr_635 : ∀ e : Bool, bk_okR 290 [(17, (0, [])), (18, (0, []))] (gE0 e) = true := by decide +kernel
theorem okr_636 : ∀ f : Bool, bk_okR 290 [(17, (0, [])), (18, (0, []))] (gF0 f) = true := by decide +kernel
theorem okr_637 : ∀ g : Bool, bk_okR 290 [(17, (0, [])), (18, (0, []))] (gG0 g) = true := by decide +kernel
theorem okr_638 : ∀ h : Bool, bk_okR 290 [(17, (0, [])), (18, (0, []))] (gH0 h) = true := by decide +kernel
theorem tn_go_NEW (a b c d e f g h  : Bool) {z : Nat → Nat} {σ : Nat → Int} (hF : bk_F σ []) (hθ : ∀ q ∈ ([] : List (Nat × sx_I)), sx_ev σ q.2 = σ q.1) : gx_H 40 sm_X8_go 16 650 0 0 z σ (bk_pt 0 [(0, .inr (.inr (some (.inl 1)))), (1, .inl (.inl (.ofNat 4000, [])))] [] (gp_NEW a b c d e f g h gn_LB) 300) (sx_σi [(17, (.ofNat 4000, [])), (18, (.ofNat 0, []))] σ) (bk_pt 4 xL [] (gp_NEW a b c d e f g h gn_LB) 300) :=
  gx_H.mono (bk_T (d := xm_go0) (z := z) (σ := σ) (B0 := (gp_NEW a b c d e f g h gn_LB)) (B1 := (gp_NEW a b c d e f g h gn_LB)) hM_go xmo_go0 (tx := []) (rx := [0, 1, 2, 3, 4, 5, 6, 7, 8, 14]) (chk_go_NEW) rfl rfl (gpo_NEW a b c d e f g h gn_lb) (gpo_NEW a b c d e f g h gn_lb) (by
    intro j hj
    simp only [List.mem_cons, List.not_mem_nil, or_false] at hj
    rcases hj with rfl | rfl | rfl | rfl | rfl | rfl | rfl | rfl | rfl | rfl
    · exact ⟨rfl, okr_630⟩
    · exact ⟨rfl, okr_631 a b c⟩
    · exact ⟨rfl, okr_632 d e f⟩
    · exact ⟨rfl, okr_633 g h⟩
    · exact ⟨rfl, okr_634 d⟩
    · exact ⟨rfl, okr_635 e⟩
    · exact ⟨rfl, okr_636 f⟩
    · exact ⟨rfl, okr_637 g⟩
    · exact ⟨rfl, okr_638 h⟩
    · exact ⟨rfl, bk_lb_R gn_lb rfl rfl⟩) (bk_all_mem (.inr (.inl (by decide))) (.inr (.inl (by decide))) (.inr (.inl (by decide))) (.inr (.inl (by decide))) (.inr (.inl (by decide))) (.inr (.inl (by decide))) (.inr (.inl (by decide))) (.inr (.inl (by decide))) (.inr (.inl (by decide))) (.inr (.inr rfl)) (.inr (.inr rfl)) (.inr (.inr rfl)) (.inr (.inr rfl)) (.inr (.inr rfl)) (.inr (.inl (by decide)))) rfl rfl hF hθ) (Nat.le_of_ble_eq_true rfl) (Nat.le_refl _) (Nat.le_refl _) (Nat.le_of_ble_eq_true rfl) (Nat.le_of_ble_eq_true rfl)
theorem hok_is_00_00 : ∀ g : Bool, gx_okD sm_L_is 17 690 (xk_is_00 (cond g 271 146)) = true
  | false => bk_at xko_is_00 1 rfl
  | true => bk_at xko_is_00 2 rfl
theorem chk_is_00_00 : ∀ g h : Bool, bk_chk (xk_is_00 (cond g 271 146)) [] [] [0, 7, 14] [(35, (.ofNat 0, [])), (1042, (.ofNat 0, []))] [] [] (0, [(0, .inr (.inr (some (.inl 0)))), (1, .inr (.inl (.ofNat 0, [(1042, .ofNat 1)])))], [], kb_OPEN_0 g h false false ++ (cond false (gG0 g) (gG1 g) ++ (gn_LB ++ ([]))), 300) (66, [], [.inl (.inl (.ofNat 1, []))], kb_OPEN_0 g h false false ++ (cond false (gG0 g) (gG1 g) ++ (gn_LB ++ ([]))), 300) = true := by decide +kernel
theorem okr_639 : ∀ g h : Bool, bk_okR 290 [] (cond false (g3c g h) (g3b g h)) = true := by decide +kernel
theorem okr_640 : ∀ h : Bool, bk_okR 290 [] (cond false (gH1 h) (gH0 h)) = true := by decide +kernel
theorem tn_is_00_00 (a b c d e f g h y v : Bool) {z : Nat → Nat} {σ : Nat → Int} (hF : bk_F σ []) (hθ : ∀ q ∈ ([(35, (.ofNat 0, [])), (1042, (.ofNat 0, []))] : List (Nat × sx_I)), sx_ev σ q.2 = σ q.1) : gx_H 40 sm_L_is 17 690 0 0 z σ (bk_pt 0 [(0, .inr (.inr (some (.inl 0)))), (1, .inr (.inl (.ofNat 0, [(1042, .ofNat 1)])))] [] (gp_OPEN a b c d e f g h y v false false gn_LB) 300) (sx_σi [] σ) (bk_pt 66 [] [.inl (.inl (.ofNat 1, []))] (gp_OPEN a b c d e f g h y v false false gn_LB) 300) :=
  gx_H.mono (bk_T (d := xk_is_00 (cond g 271 146)) (z := z) (σ := σ) (B0 := (gp_OPEN a b c d e f g h y v false false gn_LB)) (B1 := (gp_OPEN a b c d e f g h y v false false gn_LB)) hM_is (hok_is_00_00 g) (tx := [0, 7, 14]) (rx := [1, 2, 3, 4, 5, 6, 8, 9, 10, 11, 12]) (chk_is_00_00 g h) rfl rfl (gpo_OPEN a b c d e f g h y v false false gn_lb) (gpo_OPEN a b c d e f g h y v false false gn_lb) (by
    intro j hj
    simp only [List.mem_cons, List.not_mem_nil, or_false] at hj
    rcases hj with rfl | rfl | rfl | rfl | rfl | rfl | rfl | rfl | rfl | rfl | rfl
    · exact ⟨rfl, okr_603 a b c⟩
    · exact ⟨rfl, okr_604 d e f⟩
    · exact ⟨rfl, okr_639 g h⟩
    · exact ⟨rfl, okr_606 d y⟩
    · exact ⟨rfl, okr_607 e⟩
    · exact ⟨rfl, okr_608 f⟩
    · exact ⟨rfl, okr_640 h⟩
    · exact ⟨rfl, okr_611 d v y⟩
    · exact ⟨rfl, okr_612 d e f y⟩
    · exact ⟨rfl, okr_613 y⟩
    · exact ⟨rfl, okr_614 v⟩) (bk_all_mem (.inl (by decide)) (.inr (.inl (by decide))) (.inr (.inl (by decide))) (.inr (.inl (by decide))) (.inr (.inl (by decide))) (.inr (.inl (by decide))) (.inr (.inl (by decide))) (.inl (by decide)) (.inr (.inl (by decide))) (.inr (.inl (by decide))) (.inr (.inl (by decide))) (.inr (.inl (by decide))) (.inr (.inl (by decide))) (.inr (.inr rfl)) (.inl (by decide))) rfl rfl hF hθ) (Nat.le_of_ble_eq_true rfl) (Nat.le_refl _) (Nat.le_refl _) (Nat.le_of_ble_eq_true rfl) (Nat.le_of_ble_eq_true rfl)
theorem chk_is_00_01 : ∀ g h : Bool, bk_chk (xk_is_00 281) [] [] [0, 13, 14] [(15, (.ofNat 0, [])), (1042, (.ofNat 0, []))] [] [] (0, [(0, .inr (.inr (some (.inl 0)))), (1, .inr (.inl (.ofNat 0, [(1042, .ofNat 1)])))], [], kb_OPEN_0 g h false true ++ (gW true ++ (gn_LB ++ ([]))), 300) (66, [], [.inl (.inl (.ofNat 1, []))], kb_OPEN_0 g h false true ++ (gW true ++ (gn_LB ++ ([]))), 300) = true := by decide +kernel
theorem okr_641 : ∀ g : Bool, bk_okR 290 [] (cond false (gG0 g) (gG1 g)) = true := by decide +kernel
theorem tn_is_00_01 (a b c d e f g h y v : Bool) {z : Nat → Nat} {σ : Nat → Int} (hF : bk_F σ []) (hθ : ∀ q ∈ ([(15, (.ofNat 0, [])), (1042, (.ofNat 0, []))] : List (Nat × sx_I)), sx_ev σ q.2 = σ q.1) : gx_H 40 sm_L_is 17 690 0 0 z σ (bk_pt 0 [(0, .inr (.inr (some (.inl 0)))), (1, .inr (.inl (.ofNat 0, [(1042, .ofNat 1)])))] [] (gp_OPEN a b c d e f g h y v false true gn_LB) 300) (sx_σi [] σ) (bk_pt 66 [] [.inl (.inl (.ofNat 1, []))] (gp_OPEN a b c d e f g h y v false true gn_LB) 300) :=
  gx_H.mono (bk_T (d := xk_is_00 281) (z := z) (σ := σ) (B0 := (gp_OPEN a b c d e f g h y v false true gn_LB)) (B1 := (gp_OPEN a b c d e f g h y v false true gn_LB)) hM_is (bk_at xko_is_00 0 rfl) (tx := [0, 13, 14]) (rx := [1, 2, 3, 4, 5, 6, 7, 8, 9, 10, 11, 12]) (chk_is_00_01 g h) rfl rfl (gpo_OPEN a b c d e f g h y v false true gn_lb) (gpo_OPEN a b c d e f g h y v false true gn_lb) (by
    intro j hj
    simp only [List.mem_cons, List.not_mem_nil, or_false] at hj
    rcases hj with rfl | rfl | rfl | rfl | rfl | rfl | rfl | rfl | rfl | rfl | rfl | rfl
    · exact ⟨rfl, okr_603 a b c⟩
    · exact ⟨rfl, okr_604 d e f⟩
    · exact ⟨rfl, okr_639 g h⟩
    · exact ⟨rfl, okr_606 d y⟩
    · exact ⟨rfl, okr_607 e⟩
    · exact ⟨rfl, okr_608 f⟩
    · exact ⟨rfl, okr_641 g⟩
    · exact ⟨rfl, okr_640 h⟩
    · exact ⟨rfl, okr_611 d v y⟩
    · exact ⟨rfl, okr_612 d e f y⟩
    · exact ⟨rfl, okr_613 y⟩
    · exact ⟨rfl, okr_614 v⟩) (bk_all_mem (.inl (by decide)) (.inr (.inl (by decide))) (.inr (.inl (by decide))) (.inr (.inl (by decide))) (.inr (.inl (by decide))) (.inr (.inl (by decide))) (.inr (.inl (by decide))) (.inr (.inl (by decide))) (.inr (.inl (by decide))) (.inr (.inl (by decide))) (.inr (.inl (by decide))) (.inr (.inl (by decide))) (.inr (.inl (by decide))) (.inl (by decide)) (.inl (by decide))) rfl rfl hF hθ) (Nat.le_of_ble_eq_true rfl) (Nat.le_refl _) (Nat.le_refl _) (Nat.le_of_ble_eq_true rfl) (Nat.le_of_ble_eq_true rfl)
theorem hok_is_00_10 : ∀ h : Bool, gx_okD sm_L_is 17 690 (xk_is_00 (cond h 272 147)) = true
  | false => bk_at xko_is_00 3 rfl
  | true => bk_at xko_is_00 4 rfl
theorem chk_is_00_10 : ∀ g h : Bool, bk_chk (xk_is_00 (cond h 272 147)) [] [] [0, 8, 14] [(36, (.ofNat 0, [])), (1042, (.ofNat 0, []))] [] [] (0, [(0, .inr (.inr (some (.inl 0)))), (1, .inr (.inl (.ofNat 0, [(1042, .ofNat 1)])))], [], kb_OPEN_0 g h true false ++ (cond true (gH1 h) (gH0 h) ++ (gn_LB ++ ([]))), 300) (66, [], [.inl (.inl (.ofNat 1, []))], kb_OPEN_0 g h true false ++ (cond true (gH1 h) (gH0 h) ++ (gn_LB ++ ([]))), 300) = true := by decide +kernel
theorem okr_642 : ∀ g h : Bool, bk_okR 290 [] (cond true (g3c g h) (g3b g h)) = true := by decide +kernel
theorem okr_643 : ∀ g : Bool, bk_okR 290 [] (cond true (gG0 g) (gG1 g)) = true := by decide +kernel
theorem tn_is_00_10 (a b c d e f g h y v : Bool) {z : Nat → Nat} {σ : Nat → Int} (hF : bk_F σ []) (hθ : ∀ q ∈ ([(36, (.ofNat 0, [])), (1042, (.ofNat 0, []))] : List (Nat × sx_I)), sx_ev σ q.2 = σ q.1) : gx_H 40 sm_L_is 17 690 0 0 z σ (bk_pt 0 [(0, .inr (.inr (some (.inl 0)))), (1, .inr (.inl (.ofNat 0, [(1042, .ofNat 1)])))] [] (gp_OPEN a b c d e f g h y v true false gn_LB) 300) (sx_σi [] σ) (bk_pt 66 [] [.inl (.inl (.ofNat 1, []))] (gp_OPEN a b c d e f g h y v true false gn_LB) 300) :=
  gx_H.mono (bk_T (d := xk_is_00 (cond h 272 147)) (z := z) (σ := σ) (B0 := (gp_OPEN a b c d e f g h y v true false gn_LB)) (B1 := (gp_OPEN a b c d e f g h y v true false gn_LB)) hM_is (hok_is_00_10 h) (tx := [0, 8, 14]) (rx := [1, 2, 3, 4, 5, 6, 7, 9, 10, 11, 12]) (chk_is_00_10 g h) rfl rfl (gpo_OPEN a b c d e f g h y v true false gn_lb) (gpo_OPEN a b c d e f g h y v true false gn_lb) (by
    intro j hj
    simp only [List.mem_cons, List.not_mem_nil, or_false] at hj
    rcases hj with rfl | rfl | rfl | rfl | rfl | rfl | rfl | rfl | rfl | rfl | rfl
    · exact ⟨rfl, okr_603 a b c⟩
    · exact ⟨rfl, okr_604 d e f⟩
    · exact ⟨rfl, okr_642 g h⟩
    · exact ⟨rfl, okr_606 d y⟩
    · exact ⟨rfl, okr_607 e⟩
    · exact ⟨rfl, okr_608 f⟩
    · exact ⟨rfl, okr_643 g⟩
    · exact ⟨rfl, okr_611 d v y⟩
    · exact ⟨rfl, okr_612 d e f y⟩
    · exact ⟨rfl, okr_613 y⟩
    · exact ⟨rfl, okr_614 v⟩) (bk_all_mem (.inl (by decide)) (.inr (.inl (by decide))) (.inr (.inl (by decide))) (.inr (.inl (by decide))) (.inr (.inl (by decide))) (.inr (.inl (by decide))) (.inr (.inl (by decide))) (.inr (.inl (by decide))) (.inl (by decide)) (.inr (.inl (by decide))) (.inr (.inl (by decide))) (.inr (.inl (by decide))) (.inr (.inl (by decide))) (.inr (.inr rfl)) (.inl (by decide))) rfl rfl hF hθ) (Nat.le_of_ble_eq_true rfl) (Nat.le_refl _) (Nat.le_refl _) (Nat.le_of_ble_eq_true rfl) (Nat.le_of_ble_eq_true rfl)
theorem chk_is_00_11 : ∀ g h : Bool, bk_chk (xk_is_00 281) [] [] [0, 13, 14] [(15, (.ofNat 0, [])), (1042, (.ofNat 0, []))] [] [] (0, [(0, .inr (.inr (some (.inl 0)))), (1, .inr (.inl (.ofNat 0, [(1042, .ofNat 1)])))], [], kb_OPEN_0 g h true true ++ (gW true ++ (gn_LB ++ ([]))), 300) (66, [], [.inl (.inl (.ofNat 1, []))], kb_OPEN_0 g h true true ++ (gW true ++ (gn_LB ++ ([]))), 300) = true := by decide +kernel
theorem okr_644 : ∀ h : Bool, bk_okR 290 [] (cond true (gH1 h) (gH0 h)) = true := by decide +kernel
theorem tn_is_00_11 (a b c d e f g h y v : Bool) {z : Nat → Nat} {σ : Nat → Int} (hF : bk_F σ []) (hθ : ∀ q ∈ ([(15, (.ofNat 0, [])), (1042, (.ofNat 0, []))] : List (Nat × sx_I)), sx_ev σ q.2 = σ q.1) : gx_H 40 sm_L_is 17 690 0 0 z σ (bk_pt 0 [(0, .inr (.inr (some (.inl 0)))), (1, .inr (.inl (.ofNat 0, [(1042, .ofNat 1)])))] [] (gp_OPEN a b c d e f g h y v true true gn_LB) 300) (sx_σi [] σ) (bk_pt 66 [] [.inl (.inl (.ofNat 1, []))] (gp_OPEN a b c d e f g h y v true true gn_LB) 300) :=
  gx_H.mono (bk_T (d := xk_is_00 281) (z := z) (σ := σ) (B0 := (gp_OPEN a b c d e f g h y v true true gn_LB)) (B1 := (gp_OPEN a b c d e f g h y v true true gn_LB)) hM_is (bk_at xko_is_00 0 rfl) (tx := [0, 13, 14]) (rx := [1, 2, 3, 4, 5, 6, 7, 8, 9, 10, 11, 12]) (chk_is_00_11 g h) rfl rfl (gpo_OPEN a b c d e f g h y v true true gn_lb) (gpo_OPEN a b c d e f g h y v true true gn_lb) (by
    intro j hj
    simp only [List.mem_cons, List.not_mem_nil, or_false] at hj
    rcases hj with rfl | rfl | rfl | rfl | rfl | rfl | rfl | rfl | rfl | rfl | rfl | rfl
    · exact ⟨rfl, okr_603 a b c⟩
    · exact ⟨rfl, okr_604 d e f⟩
    · exact ⟨rfl, okr_642 g h⟩
    · exact ⟨rfl, okr_606 d y⟩
    · exact ⟨rfl, okr_607 e⟩
    · exact ⟨rfl, okr_608 f⟩
    · exact ⟨rfl, okr_643 g⟩
    · exact ⟨rfl, okr_644 h⟩
    · exact ⟨rfl, okr_611 d v y⟩
    · exact ⟨rfl, okr_612 d e f y⟩
    · exact ⟨rfl, okr_613 y⟩
    · exact ⟨rfl, okr_614 v⟩) (bk_all_mem (.inl (by decide)) (.inr (.inl (by decide))) (.inr (.inl (by decide))) (.inr (.inl (by decide))) (.inr (.inl (by decide))) (.inr (.inl (by decide))) (.inr (.inl (by decide))) (.inr (.inl (by decide))) (.inr (.inl (by decide))) (.inr (.inl (by decide))) (.inr (.inl (by decide))) (.inr (.inl (by decide))) (.inr (.inl (by decide))) (.inl (by decide)) (.inl (by decide))) rfl rfl hF hθ) (Nat.le_of_ble_eq_true rfl) (Nat.le_refl _) (Nat.le_refl _) (Nat.le_of_ble_eq_true rfl) (Nat.le_of_ble_eq_true rfl)
theorem hok_is_01_00 : ∀ g : Bool, gx_okD sm_L_is 17 690 (xk_is_01 (cond g 271 146)) = true
  | false => bk_at xko_is_01 1 rfl
  | true => bk_at xko_is_01 2 rfl
theorem chk_is_01_00 : ∀ g h : Bool, bk_chk (xk_is_01 (cond g 271 146)) [((.ofNat 0, [(43, .ofNat 1)]), .ofNat 1, .ofNat 9)] [] [0, 7, 14] [(35, (.ofNat 0, [(43, .ofNat 1)])), (1042, (.ofNat 0, [(43, .ofNat 1)]))] [] [] (0, [(0, .inr (.inr (some (.inl 0)))), (1, .inr (.inl (.ofNat 0, [(1042, .ofNat 1)])))], [], kb_OPEN_0 g h false false ++ (cond false (gG0 g) (gG1 g) ++ (gn_LB ++ ([]))), 300) (66, [], [.inl (.inl (.ofNat 1, []))], kb_OPEN_0 g h false false ++ (cond false (gG0 g) (gG1 g) ++ (gn_LB ++ ([]))), 300) = true := by decide +kernel
theorem tn_is_01_00 (a b c d e f g h y v : Bool) {z : Nat → Nat} {σ : Nat → Int} (hF : bk_F σ [((.ofNat 0, [(43, .ofNat 1)]), .ofNat 1, .ofNat 9)]) (hθ : ∀ q ∈ ([(35, (.ofNat 0, [(43, .ofNat 1)])), (1042, (.ofNat 0, [(43, .ofNat 1)]))] : List (Nat × sx_I)), sx_ev σ q.2 = σ q.1) : gx_H 40 sm_L_is 17 690 0 0 z σ (bk_pt 0 [(0, .inr (.inr (some (.inl 0)))), (1, .inr (.inl (.ofNat 0, [(1042, .ofNat 1)])))] [] (gp_OPEN a b c d e f g h y v false false gn_LB) 300) (sx_σi [] σ) (bk_pt 66 [] [.inl (.inl (.ofNat 1, []))] (gp_OPEN a b c d e f g h y v false false gn_LB) 300) :=
  gx_H.mono (bk_T (d := xk_is_01 (cond g 271 146)) (z := z) (σ := σ) (B0 := (gp_OPEN a b c d e f g h y v false false gn_LB)) (B1 := (gp_OPEN a b c d e f g h y v false false gn_LB)) hM_is (hok_is_01_00 g) (tx := [0, 7, 14]) (rx := [1, 2, 3, 4, 5, 6, 8, 9, 10, 11, 12]) (chk_is_01_00 g h) rfl rfl (gpo_OPEN a b c d e f g h y v false false gn_lb) (gpo_OPEN a b c d e f g h y v false false gn_lb) (by
    intro j hj
    simp only [List.mem_cons, List.not_mem_nil, or_false] at hj
    rcases hj with rfl | rfl | rfl | rfl | rfl | rfl | rfl | rfl | rfl | rfl | rfl
    · exact ⟨rfl, okr_603 a b c⟩
    · exact ⟨rfl, okr_604 d e f⟩
    · exact ⟨rfl, okr_639 g h⟩
    · exact ⟨rfl, okr_606 d y⟩
    · exact ⟨rfl, okr_607 e⟩
    · exact ⟨rfl, okr_608 f⟩
    · exact ⟨rfl, okr_640 h⟩
    · exact ⟨rfl, okr_611 d v y⟩
    · exact ⟨rfl, okr_612 d e f y⟩
    · exact ⟨rfl, okr_613 y⟩
    · exact ⟨rfl, okr_614 v⟩) (bk_all_mem (.inl (by decide)) (.inr (.inl (by decide))) (.inr (.inl (by decide))) (.inr (.inl (by decide))) (.inr (.inl (by decide))) (.inr (.inl (by decide))) (.inr (.inl (by decide))) (.inl (by decide)) (.inr (.inl (by decide))) (.inr (.inl (by decide))) (.inr (.inl (by decide))) (.inr (.inl (by decide))) (.inr (.inl (by decide))) (.inr (.inr rfl)) (.inl (by decide))) rfl rfl hF hθ) (Nat.le_of_ble_eq_true rfl) (Nat.le_refl _) (Nat.le_refl _) (Nat.le_of_ble_eq_true rfl) (Nat.le_of_ble_eq_true rfl)
theorem chk_is_01_01 : ∀ g h : Bool, bk_chk (xk_is_01 281) [((.ofNat 0, [(43, .ofNat 1)]), .ofNat 1, .ofNat 9)] [] [0, 13, 14] [(15, (.ofNat 0, [(43, .ofNat 1)])), (1042, (.ofNat 0, [(43, .ofNat 1)]))] [] [] (0, [(0, .inr (.inr (some (.inl 0)))), (1, .inr (.inl (.ofNat 0, [(1042, .ofNat 1)])))], [], kb_OPEN_0 g h false true ++ (gW true ++ (gn_LB ++ ([]))), 300) (66, [], [.inl (.inl (.ofNat 1, []))], kb_OPEN_0 g h false true ++ (gW true ++ (gn_LB ++ ([]))), 300) = true := by decide +kernel
theorem tn_is_01_01 (a b c d e f g h y v : Bool) {z : Nat → Nat} {σ : Nat → Int} (hF : bk_F σ [((.ofNat 0, [(43, .ofNat 1)]), .ofNat 1, .ofNat 9)]) (hθ : ∀ q ∈ ([(15, (.ofNat 0, [(43, .ofNat 1)])), (1042, (.ofNat 0, [(43, .ofNat 1)]))] : List (Nat × sx_I)), sx_ev σ q.2 = σ q.1) : gx_H 40 sm_L_is 17 690 0 0 z σ (bk_pt 0 [(0, .inr (.inr (some (.inl 0)))), (1, .inr (.inl (.ofNat 0, [(1042, .ofNat 1)])))] [] (gp_OPEN a b c d e f g h y v false true gn_LB) 300) (sx_σi [] σ) (bk_pt 66 [] [.inl (.inl (.ofNat 1, []))] (gp_OPEN a b c d e f g h y v false true gn_LB) 300) :=
  gx_H.mono (bk_T (d := xk_is_01 281) (z := z) (σ := σ) (B0 := (gp_OPEN a b c d e f g h y v false true gn_LB)) (B1 := (gp_OPEN a b c d e f g h y v false true gn_LB)) hM_is (bk_at xko_is_01 0 rfl) (tx := [0, 13, 14]) (rx := [1, 2, 3, 4, 5, 6, 7, 8, 9, 10, 11, 12]) (chk_is_01_01 g h) rfl rfl (gpo_OPEN a b c d e f g h y v false true gn_lb) (gpo_OPEN a b c d e f g h y v false true gn_lb) (by
    intro j hj
    simp only [List.mem_cons, List.not_mem_nil, or_false] at hj
    rcases hj with rfl | rfl | rfl | rfl | rfl | rfl | rfl | rfl | rfl | rfl | rfl | rfl
    · exact ⟨rfl, okr_603 a b c⟩
    · exact ⟨rfl, okr_604 d e f⟩
    · exact ⟨rfl, okr_639 g h⟩
    · exact ⟨rfl, okr_606 d y⟩
    · exact ⟨rfl, okr_607 e⟩
    · exact ⟨rfl, okr_608 f⟩
    · exact ⟨rfl, okr_641 g⟩
    · exact ⟨rfl, okr_640 h⟩
    · exact ⟨rfl, okr_611 d v y⟩
    · exact ⟨rfl, okr_612 d e f y⟩
    · exact ⟨rfl, okr_613 y⟩
    · exact ⟨rfl, okr_614 v⟩) (bk_all_mem (.inl (by decide)) (.inr (.inl (by decide))) (.inr (.inl (by decide))) (.inr (.inl (by decide))) (.inr (.inl (by decide))) (.inr (.inl (by decide))) (.inr (.inl (by decide))) (.inr (.inl (by decide))) (.inr (.inl (by decide))) (.inr (.inl (by decide))) (.inr (.inl (by decide))) (.inr (.inl (by decide))) (.inr (.inl (by decide))) (.inl (by decide)) (.inl (by decide))) rfl rfl hF hθ) (Nat.le_of_ble_eq_true rfl) (Nat.le_refl _) (Nat.le_refl _) (Nat.le_of_ble_eq_true rfl) (Nat.le_of_ble_eq_true rfl)
theorem hok_is_01_10 : ∀ h : Bool, gx_okD sm_L_is 17 690 (xk_is_01 (cond h 272 147)) = true
  | false => bk_at xko_is_01 3 rfl
  | true => bk_at xko_is_01 4 rfl
theorem chk_is_01_10 : ∀ g h : Bool, bk_chk (xk_is_01 (cond h 272 147)) [((.ofNat 0, [(43, .ofNat 1)]), .ofNat 1, .ofNat 9)] [] [0, 8, 14] [(36, (.ofNat 0, [(43, .ofNat 1)])), (1042, (.ofNat 0, [(43, .ofNat 1)]))] [] [] (0, [(0, .inr (.inr (some (.inl 0)))), (1, .inr (.inl (.ofNat 0, [(1042, .ofNat 1)])))], [], kb_OPEN_0 g h true false ++ (cond true (gH1 h) (gH0 h) ++ (gn_LB ++ ([]))), 300) (66, [], [.inl (.inl (.ofNat 1, []))], kb_OPEN_0 g h true false ++ (cond true (gH1 h) (gH0 h) ++ (gn_LB ++ ([]))), 300) = true := by decide +kernel
theorem tn_is_01_10 (a b c d e f g h y v : Bool) {z : Nat → Nat} {σ : Nat → Int} (hF : bk_F σ [((.ofNat 0, [(43, .ofNat 1)]), .ofNat 1, .ofNat 9)]) (hθ : ∀ q ∈ ([(36, (.ofNat 0, [(43, .ofNat 1)])), (1042, (.ofNat 0, [(43, .ofNat 1)]))] : List (Nat × sx_I)), sx_ev σ q.2 = σ q.1) : gx_H 40 sm_L_is 17 690 0 0 z σ (bk_pt 0 [(0, .inr (.inr (some (.inl 0)))), (1, .inr (.inl (.ofNat 0, [(1042, .ofNat 1)])))] [] (gp_OPEN a b c d e f g h y v true false gn_LB) 300) (sx_σi [] σ) (bk_pt 66 [] [.inl (.inl (.ofNat 1, []))] (gp_OPEN a b c d e f g h y v true false gn_LB) 300) :=
  gx_H.mono (bk_T (d := xk_is_01 (cond h 272 147)) (z := z) (σ := σ) (B0 := (gp_OPEN a b c d e f g h y v true false gn_LB)) (B1 := (gp_OPEN a b c d e f g h y v true false gn_LB)) hM_is (hok_is_01_10 h) (tx := [0, 8, 14]) (rx := [1, 2, 3, 4, 5, 6, 7, 9, 10, 11, 12]) (chk_is_01_10 g h) rfl rfl (gpo_OPEN a b c d e f g h y v true false gn_lb) (gpo_OPEN a b c d e f g h y v true false gn_lb) (by
    intro j hj
    simp only [List.mem_cons, List.not_mem_nil, or_false] at hj
    rcases hj with rfl | rfl | rfl | rfl | rfl | rfl | rfl | rfl | rfl | rfl | rfl
    · exact ⟨rfl, okr_603 a b c⟩
    · exact ⟨rfl, okr_604 d e f⟩
    · exact ⟨rfl, okr_642 g h⟩
    · exact ⟨rfl, okr_606 d y⟩
    · exact ⟨rfl, okr_607 e⟩
    · exact ⟨rfl, okr_608 f⟩
    · exact ⟨rfl, okr_643 g⟩
    · exact ⟨rfl, okr_611 d v y⟩
    · exact ⟨rfl, okr_612 d e f y⟩
    · exact ⟨rfl, okr_613 y⟩
    · exact ⟨rfl, okr_614 v⟩) (bk_all_mem (.inl (by decide)) (.inr (.inl (by decide))) (.inr (.inl (by decide))) (.inr (.inl (by decide))) (.inr (.inl (by decide))) (.inr (.inl (by decide))) (.inr (.inl (by decide))) (.inr (.inl (by decide))) (.inl (by decide)) (.inr (.inl (by decide))) (.inr (.inl (by decide))) (.inr (.inl (by decide))) (.inr (.inl (by decide))) (.inr (.inr rfl)) (.inl (by decide))) rfl rfl hF hθ) (Nat.le_of_ble_eq_true rfl) (Nat.le_refl _) (Nat.le_refl _) (Nat.le_of_ble_eq_true rfl) (Nat.le_of_ble_eq_true rfl)
theorem chk_is_01_11 : ∀ g h : Bool, bk_chk (xk_is_01 281) [((.ofNat 0, [(43, .ofNat 1)]), .ofNat 1, .ofNat 9)] [] [0, 13, 14] [(15, (.ofNat 0, [(43, .ofNat 1)])), (1042, (.ofNat 0, [(43, .ofNat 1)]))] [] [] (0, [(0, .inr (.inr (some (.inl 0)))), (1, .inr (.inl (.ofNat 0, [(1042, .ofNat 1)])))], [], kb_OPEN_0 g h true true ++ (gW true ++ (gn_LB ++ ([]))), 300) (66, [], [.inl (.inl (.ofNat 1, []))], kb_OPEN_0 g h true true ++ (gW true ++ (gn_LB ++ ([]))), 300) = true := by decide +kernel
theorem tn_is_01_11 (a b c d e f g h y v : Bool) {z : Nat → Nat} {σ : Nat → Int} (hF : bk_F σ [((.ofNat 0, [(43, .ofNat 1)]), .ofNat 1, .ofNat 9)]) (hθ : ∀ q ∈ ([(15, (.ofNat 0, [(43, .ofNat 1)])), (1042, (.ofNat 0, [(43, .ofNat 1)]))] : List (Nat × sx_I)), sx_ev σ q.2 = σ q.1) : gx_H 40 sm_L_is 17 690 0 0 z σ (bk_pt 0 [(0, .inr (.inr (some (.inl 0)))), (1, .inr (.inl (.ofNat 0, [(1042, .ofNat 1)])))] [] (gp_OPEN a b c d e f g h y v true true gn_LB) 300) (sx_σi [] σ) (bk_pt 66 [] [.inl (.inl (.ofNat 1, []))] (gp_OPEN a b c d e f g h y v true true gn_LB) 300) :=
  gx_H.mono (bk_T (d := xk_is_01 281) (z := z) (σ := σ) (B0 := (gp_OPEN a b c d e f g h y v true true gn_LB)) (B1 := (gp_OPEN a b c d e f g h y v true true gn_LB)) hM_is (bk_at xko_is_01 0 rfl) (tx := [0, 13, 14]) (rx := [1, 2, 3, 4, 5, 6, 7, 8, 9, 10, 11, 12]) (chk_is_01_11 g h) rfl rfl (gpo_OPEN a b c d e f g h y v true true gn_lb) (gpo_OPEN a b c d e f g h y v true true gn_lb) (by
    intro j hj
    simp only [List.mem_cons, List.not_mem_nil, or_false] at hj
    rcases hj with rfl | rfl | rfl | rfl | rfl | rfl | rfl | rfl | rfl | rfl | rfl | rfl
    · exact ⟨rfl, okr_603 a b c⟩
    · exact ⟨rfl, okr_604 d e f⟩
    · exact ⟨rfl, okr_642 g h⟩
    · exact ⟨rfl, okr_606 d y⟩
    · exact ⟨rfl, okr_607 e⟩
    · exact ⟨rfl, okr_608 f⟩
    · exact ⟨rfl, okr_643 g⟩
    · exact ⟨rfl, okr_644 h⟩
    · exact ⟨rfl, okr_611 d v y⟩
    · exact ⟨rfl, okr_612 d e f y⟩
    · exact ⟨rfl, okr_613 y⟩
    · exact ⟨rfl, okr_614 v⟩) (bk_all_mem (.inl (by decide)) (.inr (.inl (by decide))) (.inr (.inl (by decide))) (.inr (.inl (by decide))) (.inr (.inl (by decide))) (.inr (.inl (by decide))) (.inr (.inl (by decide))) (.inr (.inl (by decide))) (.inr (.inl (by decide))) (.inr (.inl (by decide))) (.inr (.inl (by decide))) (.inr (.inl (by decide))) (.inr (.inl (by decide))) (.inl (by decide)) (.inl (by decide))) rfl rfl hF hθ) (Nat.le_of_ble_eq_true rfl) (Nat.le_refl _) (Nat.le_refl _) (Nat.le_of_ble_eq_true rfl) (Nat.le_of_ble_eq_true rfl)
theorem hok_is_02_00 : ∀ g : Bool, gx_okD sm_L_is 17 690 (xk_is_02 (cond g 271 146)) = true
  | false => bk_at xko_is_02 1 rfl
  | true => bk_at xko_is_02 2 rfl
theorem chk_is_02_00 : ∀ g h : Bool, bk_chk (xk_is_02 (cond g 271 146)) [((.ofNat 0, [(42, .ofNat 1)]), .ofNat 1, .ofNat 9), ((.ofNat 0, [(43, .ofNat 1)]), .ofNat 0, .ofNat 9)] [] [0, 7, 14] [(35, (.ofNat 0, [(42, .ofNat 10), (43, .ofNat 1)])), (1042, (.ofNat 0, [(42, .ofNat 10), (43, .ofNat 1)]))] [] [] (0, [(0, .inr (.inr (some (.inl 0)))), (1, .inr (.inl (.ofNat 0, [(1042, .ofNat 1)])))], [], kb_OPEN_0 g h false false ++ (cond false (gG0 g) (gG1 g) ++ (gn_LB ++ ([]))), 300) (66, [], [.inl (.inl (.ofNat 1, []))], kb_OPEN_0 g h false false ++ (cond false (gG0 g) (gG1 g) ++ (gn_LB ++ ([]))), 300) = true := by decide +kernel
theorem tn_is_02_00 (a b c d e f g h y v : Bool) {z : Nat → Nat} {σ : Nat → Int} (hF : bk_F σ [((.ofNat 0, [(42, .ofNat 1)]), .ofNat 1, .ofNat 9), ((.ofNat 0, [(43, .ofNat 1)]), .ofNat 0, .ofNat 9)]) (hθ : ∀ q ∈ ([(35, (.ofNat 0, [(42, .ofNat 10), (43, .ofNat 1)])), (1042, (.ofNat 0, [(42, .ofNat 10), (43, .ofNat 1)]))] : List (Nat × sx_I)), sx_ev σ q.2 = σ q.1) : gx_H 40 sm_L_is 17 690 0 0 z σ (bk_pt 0 [(0, .inr (.inr (some (.inl 0)))), (1, .inr (.inl (.ofNat 0, [(1042, .ofNat 1)])))] [] (gp_OPEN a b c d e f g h y v false false gn_LB) 300) (sx_σi [] σ) (bk_pt 66 [] [.inl (.inl (.ofNat 1, []))] (gp_OPEN a b c d e f g h y v false false gn_LB) 300) :=
  gx_H.mono (bk_T (d := xk_is_02 (cond g 271 146)) (z := z) (σ := σ) (B0 := (gp_OPEN a b c d e f g h y v false false gn_LB)) (B1 := (gp_OPEN a b c d e f g h y v false false gn_LB)) hM_is (hok_is_02_00 g) (tx := [0, 7, 14]) (rx := [1, 2, 3, 4, 5, 6, 8, 9, 10, 11, 12]) (chk_is_02_00 g h) rfl rfl (gpo_OPEN a b c d e f g h y v false false gn_lb) (gpo_OPEN a b c d e f g h y v false false gn_lb) (by
    intro j hj
    simp only [List.mem_cons, List.not_mem_nil, or_false] at hj
    rcases hj with rfl | rfl | rfl | rfl | rfl | rfl | rfl | rfl | rfl | rfl | rfl
    · exact ⟨rfl, okr_603 a b c⟩
    · exact ⟨rfl, okr_604 d e f⟩
    · exact ⟨rfl, okr_639 g h⟩
    · exact ⟨rfl, okr_606 d y⟩
    · exact ⟨rfl, okr_607 e⟩
    · exact ⟨rfl, okr_608 f⟩
    · exact ⟨rfl, okr_640 h⟩
    · exact ⟨rfl, okr_611 d v y⟩
    · exact ⟨rfl, okr_612 d e f y⟩
    · exact ⟨rfl, okr_613 y⟩
    · exact ⟨rfl, okr_614 v⟩) (bk_all_mem (.inl (by decide)) (.inr (.inl (by decide))) (.inr (.inl (by decide))) (.inr (.inl (by decide))) (.inr (.inl (by decide))) (.inr (.inl (by decide))) (.inr (.inl (by decide))) (.inl (by decide)) (.inr (.inl (by decide))) (.inr (.inl (by decide))) (.inr (.inl (by decide))) (.inr (.inl (by decide))) (.inr (.inl (by decide))) (.inr (.inr rfl)) (.inl (by decide))) rfl rfl hF hθ) (Nat.le_of_ble_eq_true rfl) (Nat.le_refl _) (Nat.le_refl _) (Nat.le_of_ble_eq_true rfl) (Nat.le_of_ble_eq_true rfl)
theorem chk_is_02_01 : ∀ g h : Bool, bk_chk (xk_is_02 281) [((.ofNat 0, [(42, .ofNat 1)]), .ofNat 1, .ofNat 9), ((.ofNat 0, [(43, .ofNat 1)]), .ofNat 0, .ofNat 9)] [] [0, 13, 14] [(15, (.ofNat 0, [(42, .ofNat 10), (43, .ofNat 1)])), (1042, (.ofNat 0, [(42, .ofNat 10), (43, .ofNat 1)]))] [] [] (0, [(0, .inr (.inr (some (.inl 0)))), (1, .inr (.inl (.ofNat 0, [(1042, .ofNat 1)])))], [], kb_OPEN_0 g h false true ++ (gW true ++ (gn_LB ++ ([]))), 300) (66, [], [.inl (.inl (.ofNat 1, []))], kb_OPEN_0 g h false true ++ (gW true ++ (gn_LB ++ ([]))), 300) = true := by decide +kernel
theorem tn_is_02_01 (a b c d e f g h y v : Bool) {z : Nat → Nat} {σ : Nat → Int} (hF : bk_F σ [((.ofNat 0, [(42, .ofNat 1)]), .ofNat 1, .ofNat 9), ((.ofNat 0, [(43, .ofNat 1)]), .ofNat 0, .ofNat 9)]) (hθ : ∀ q ∈ ([(15, (.ofNat 0, [(42, .ofNat 10), (43, .ofNat 1)])), (1042, (.ofNat 0, [(42, .ofNat 10), (43, .ofNat 1)]))] : List (Nat × sx_I)), sx_ev σ q.2 = σ q.1) : gx_H 40 sm_L_is 17 690 0 0 z σ (bk_pt 0 [(0, .inr (.inr (some (.inl 0)))), (1, .inr (.inl (.ofNat 0, [(1042, .ofNat 1)])))] [] (gp_OPEN a b c d e f g h y v false true gn_LB) 300) (sx_σi [] σ) (bk_pt 66 [] [.inl (.inl (.ofNat 1, []))] (gp_OPEN a b c d e f g h y v false true gn_LB) 300) :=
  gx_H.mono (bk_T (d := xk_is_02 281) (z := z) (σ := σ) (B0 := (gp_OPEN a b c d e f g h y v false true gn_LB)) (B1 := (gp_OPEN a b c d e f g h y v false true gn_LB)) hM_is (bk_at xko_is_02 0 rfl) (tx := [0, 13, 14]) (rx := [1, 2, 3, 4, 5, 6, 7, 8, 9, 10, 11, 12]) (chk_is_02_01 g h) rfl rfl (gpo_OPEN a b c d e f g h y v false true gn_lb) (gpo_OPEN a b c d e f g h y v false true gn_lb) (by
    intro j hj
    simp only [List.mem_cons, List.not_mem_nil, or_false] at hj
    rcases hj with rfl | rfl | rfl | rfl | rfl | rfl | rfl | rfl | rfl | rfl | rfl | rfl
    · exact ⟨rfl, okr_603 a b c⟩
    · exact ⟨rfl, okr_604 d e f⟩
    · exact ⟨rfl, okr_639 g h⟩
    · exact ⟨rfl, okr_606 d y⟩
    · exact ⟨rfl, okr_607 e⟩
    · exact ⟨rfl, okr_608 f⟩
    · exact ⟨rfl, okr_641 g⟩
    · exact ⟨rfl, okr_640 h⟩
    · exact ⟨rfl, okr_611 d v y⟩
    · exact ⟨rfl, okr_612 d e f y⟩
    · exact ⟨rfl, okr_613 y⟩
    · exact ⟨rfl, okr_614 v⟩) (bk_all_mem (.inl (by decide)) (.inr (.inl (by decide))) (.inr (.inl (by decide))) (.inr (.inl (by decide))) (.inr (.inl (by decide))) (.inr (.inl (by decide))) (.inr (.inl (by decide))) (.inr (.inl (by decide))) (.inr (.inl (by decide))) (.inr (.inl (by decide))) (.inr (.inl (by decide))) (.inr (.inl (by decide))) (.inr (.inl (by decide))) (.inl (by decide)) (.inl (by decide))) rfl rfl hF hθ) (Nat.le_of_ble_eq_true rfl) (Nat.le_refl _) (Nat.le_refl _) (Nat.le_of_ble_eq_true rfl) (Nat.le_of_ble_eq_true rfl)
theorem hok_is_02_10 : ∀ h : Bool, gx_okD sm_L_is 17 690 (xk_is_02 (cond h 272 147)) = true
  | false => bk_at xko_is_02 3 rfl
  | true => bk_at xko_is_02 4 rfl
theorem chk_is_02_10 : ∀ g h : Bool, bk_chk (xk_is_02 (cond h 272 147)) [((.ofNat 0, [(42, .ofNat 1)]), .ofNat 1, .ofNat 9), ((.ofNat 0, [(43, .ofNat 1)]), .ofNat 0, .ofNat 9)] [] [0, 8, 14] [(36, (.ofNat 0, [(42, .ofNat 10), (43, .ofNat 1)])), (1042, (.ofNat 0, [(42, .ofNat 10), (43, .ofNat 1)]))] [] [] (0, [(0, .inr (.inr (some (.inl 0)))), (1, .inr (.inl (.ofNat 0, [(1042, .ofNat 1)])))], [], kb_OPEN_0 g h true false ++ (cond true (gH1 h) (gH0 h) ++ (gn_LB ++ ([]))), 300) (66, [], [.inl (.inl (.ofNat 1, []))], kb_OPEN_0 g h true false ++ (cond true (gH1 h) (gH0 h) ++ (gn_LB ++ ([]))), 300) = true := by decide +kernel
theorem tn_is_02_10 (a b c d e f g h y v : Bool) {z : Nat → Nat} {σ : Nat → Int} (hF : bk_F σ [((.ofNat 0, [(42, .ofNat 1)]), .ofNat 1, .ofNat 9), ((.ofNat 0, [(43, .ofNat 1)]), .ofNat 0, .ofNat 9)]) (hθ : ∀ q ∈ ([(36, (.ofNat 0, [(42, .ofNat 10), (43, .ofNat 1)])), (1042, (.ofNat 0, [(42, .ofNat 10), (43, .ofNat 1)]))] : List (Nat × sx_I)), sx_ev σ q.2 = σ q.1) : gx_H 40 sm_L_is 17 690 0 0 z σ (bk_pt 0 [(0, .inr (.inr (some (.inl 0)))), (1, .inr (.inl (.ofNat 0, [(1042, .ofNat 1)])))] [] (gp_OPEN a b c d e f g h y v true false gn_LB) 300) (sx_σi [] σ) (bk_pt 66 [] [.inl (.inl (.ofNat 1, []))] (gp_OPEN a b c d e f g h y v true false gn_LB) 300) :=
  gx_H.mono (bk_T (d := xk_is_02 (cond h 272 147)) (z := z) (σ := σ) (B0 := (gp_OPEN a b c d e f g h y v true false gn_LB)) (B1 := (gp_OPEN a b c d e f g h y v true false gn_LB)) hM_is (hok_is_02_10 h) (tx := [0, 8, 14]) (rx := [1, 2, 3, 4, 5, 6, 7, 9, 10, 11, 12]) (chk_is_02_10 g h) rfl rfl (gpo_OPEN a b c d e f g h y v true false gn_lb) (gpo_OPEN a b c d e f g h y v true false gn_lb) (by
    intro j hj
    simp only [List.mem_cons, List.not_mem_nil, or_false] at hj
    rcases hj with rfl | rfl | rfl | rfl | rfl | rfl | rfl | rfl | rfl | rfl | rfl
    · exact ⟨rfl, okr_603 a b c⟩
    · exact ⟨rfl, okr_604 d e f⟩
    · exact ⟨rfl, okr_642 g h⟩
    · exact ⟨rfl, okr_606 d y⟩
    · exact ⟨rfl, okr_607 e⟩
    · exact ⟨rfl, okr_608 f⟩
    · exact ⟨rfl, okr_643 g⟩
    · exact ⟨rfl, okr_611 d v y⟩
    · exact ⟨rfl, okr_612 d e f y⟩
    · exact ⟨rfl, okr_613 y⟩
    · exact ⟨rfl, okr_614 v⟩) (bk_all_mem (.inl (by decide)) (.inr (.inl (by decide))) (.inr (.inl (by decide))) (.inr (.inl (by decide))) (.inr (.inl (by decide))) (.inr (.inl (by decide))) (.inr (.inl (by decide))) (.inr (.inl (by decide))) (.inl (by decide)) (.inr (.inl (by decide))) (.inr (.inl (by decide))) (.inr (.inl (by decide))) (.inr (.inl (by decide))) (.inr (.inr rfl)) (.inl (by decide))) rfl rfl hF hθ) (Nat.le_of_ble_eq_true rfl) (Nat.le_refl _) (Nat.le_refl _) (Nat.le_of_ble_eq_true rfl) (Nat.le_of_ble_eq_true rfl)
theorem chk_is_02_11 : ∀ g h : Bool, bk_chk (xk_is_02 281) [((.ofNat 0, [(42, .ofNat 1)]), .ofNat 1, .ofNat 9), ((.ofNat 0, [(43, .ofNat 1)]), .ofNat 0, .ofNat 9)] [] [0, 13, 14] [(15, (.ofNat 0, [(42, .ofNat 10), (43, .ofNat 1)])), (1042, (.ofNat 0, [(42, .ofNat 10), (43, .ofNat 1)]))] [] [] (0, [(0, .inr (.inr (some (.inl 0)))), (1, .inr (.inl (.ofNat 0, [(1042, .ofNat 1)])))], [], kb_OPEN_0 g h true true ++ (gW true ++ (gn_LB ++ ([]))), 300) (66, [], [.inl (.inl (.ofNat 1, []))], kb_OPEN_0 g h true true ++ (gW true ++ (gn_LB ++ ([]))), 300) = true := by decide +kernel
theorem tn_is_02_11 (a b c d e f g h y v : Bool) {z : Nat → Nat} {σ : Nat → Int} (hF : bk_F σ [((.ofNat 0, [(42, .ofNat 1)]), .ofNat 1, .ofNat 9), ((.ofNat 0, [(43, .ofNat 1)]), .ofNat 0, .ofNat 9)]) (hθ : ∀ q ∈ ([(15, (.ofNat 0, [(42, .ofNat 10), (43, .ofNat 1)])), (1042, (.ofNat 0, [(42, .ofNat 10), (43, .ofNat 1)]))] : List (Nat × sx_I)), sx_ev σ q.2 = σ q.1) : gx_H 40 sm_L_is 17 690 0 0 z σ (bk_pt 0 [(0, .inr (.inr (some (.inl 0)))), (1, .inr (.inl (.ofNat 0, [(1042, .ofNat 1)])))] [] (gp_OPEN a b c d e f g h y v true true gn_LB) 300) (sx_σi [] σ) (bk_pt 66 [] [.inl (.inl (.ofNat 1, []))] (gp_OPEN a b c d e f g h y v true true gn_LB) 300) :=
  gx_H.mono (bk_T (d := xk_is_02 281) (z := z) (σ := σ) (B0 := (gp_OPEN a b c d e f g h y v true true gn_LB)) (B1 := (gp_OPEN a b c d e f g h y v true true gn_LB)) hM_is (bk_at xko_is_02 0 rfl) (tx := [0, 13, 14]) (rx := [1, 2, 3, 4, 5, 6, 7, 8, 9, 10, 11, 12]) (chk_is_02_11 g h) rfl rfl (gpo_OPEN a b c d e f g h y v true true gn_lb) (gpo_OPEN a b c d e f g h y v true true gn_lb) (by
    intro j hj
    simp only [List.mem_cons, List.not_mem_nil, or_false] at hj
    rcases hj with rfl | rfl | rfl | rfl | rfl | rfl | rfl | rfl | rfl | rfl | rfl | rfl
    · exact ⟨rfl, okr_603 a b c⟩
    · exact ⟨rfl, okr_604 d e f⟩
    · exact ⟨rfl, okr_642 g h⟩
    · exact ⟨rfl, okr_606 d y⟩
    · exact ⟨rfl, okr_607 e⟩
    · exact ⟨rfl, okr_608 f⟩
    · exact ⟨rfl, okr_643 g⟩
    · exact ⟨rfl, okr_644 h⟩
    · exact ⟨rfl, okr_611 d v y⟩
    · exact ⟨rfl, okr_612 d e f y⟩
    · exact ⟨rfl, okr_613 y⟩
    · exact ⟨rfl, okr_614 v⟩) (bk_all_mem (.inl (by decide)) (.inr (.inl (by decide))) (.inr (.inl (by decide))) (.inr (.inl (by decide))) (.inr (.inl (by decide))) (.inr (.inl (by decide))) (.inr (.inl (by decide))) (.inr (.inl (by decide))) (.inr (.inl (by decide))) (.inr (.inl (by decide))) (.inr (.inl (by decide))) (.inr (.inl (by decide))) (.inr (.inl (by decide))) (.inl (by decide)) (.inl (by decide))) rfl rfl hF hθ) (Nat.le_of_ble_eq_true rfl) (Nat.le_refl _) (Nat.le_refl _) (Nat.le_of_ble_eq_true rfl) (Nat.le_of_ble_eq_true rfl)
theorem hok_is_03_00 : ∀ g : Bool, gx_okD sm_L_is 17 690 (xk_is_03 (cond g 271 146)) = true
  | false => bk_at xko_is_03 1 rfl
  | true => bk_at xko_is_03 2 rfl
theorem chk_is_03_00 : ∀ g h : Bool, bk_chk (xk_is_03 (cond g 271 146)) [((.ofNat 0, [(41, .ofNat 1)]), .ofNat 1, .ofNat 9), ((.ofNat 0, [(42, .ofNat 1)]), .ofNat 0, .ofNat 9), ((.ofNat 0, [(43, .ofNat 1)]), .ofNat 0, .ofNat 9)] [] [0, 7, 14] [(35, (.ofNat 0, [(41, .ofNat 100), (42, .ofNat 10), (43, .ofNat 1)])), (1042, (.ofNat 0, [(41, .ofNat 100), (42, .ofNat 10), (43, .ofNat 1)]))] [] [] (0, [(0, .inr (.inr (some (.inl 0)))), (1, .inr (.inl (.ofNat 0, [(1042, .ofNat 1)])))], [], kb_OPEN_0 g h false false ++ (cond false (gG0 g) (gG1 g) ++ (gn_LB ++ ([]))), 300) (66, [], [.inl (.inl (.ofNat 1, []))], kb_OPEN_0 g h false false ++ (cond false (gG0 g) (gG1 g) ++ (gn_LB ++ ([]))), 300) = true := by decide +kernel
theorem tn_is_03_00 (a b c d e f g h y v : Bool) {z : Nat → Nat} {σ : Nat → Int} (hF : bk_F σ [((.ofNat 0, [(41, .ofNat 1)]), .ofNat 1, .ofNat 9), ((.ofNat 0, [(42, .ofNat 1)]), .ofNat 0, .ofNat 9), ((.ofNat 0, [(43, .ofNat 1)]), .ofNat 0, .ofNat 9)]) (hθ : ∀ q ∈ ([(35, (.ofNat 0, [(41, .ofNat 100), (42, .ofNat 10), (43, .ofNat 1)])), (1042, (.ofNat 0, [(41, .ofNat 100), (42, .ofNat 10), (43, .ofNat 1)]))] : List (Nat × sx_I)), sx_ev σ q.2 = σ q.1) : gx_H 40 sm_L_is 17 690 0 0 z σ (bk_pt 0 [(0, .inr (.inr (some (.inl 0)))), (1, .inr (.inl (.ofNat 0, [(1042, .ofNat 1)])))] [] (gp_OPEN a b c d e f g h y v false false gn_LB) 300) (sx_σi [] σ) (bk_pt 66 [] [.inl (.inl (.ofNat 1, []))] (gp_OPEN a b c d e f g h y v false false gn_LB) 300) :=
  gx_H.mono (bk_T (d := xk_is_03 (cond g 271 146)) (z := z) (σ := σ) (B0 := (gp_OPEN a b c d e f g h y v false false gn_LB)) (B1 := (gp_OPEN a b c d e f g h y v false false gn_LB)) hM_is (hok_is_03_00 g) (tx := [0, 7, 14]) (rx := [1, 2, 3, 4, 5, 6, 8, 9, 10, 11, 12]) (chk_is_03_00 g h) rfl rfl (gpo_OPEN a b c d e f g h y v false false gn_lb) (gpo_OPEN a b c d e f g h y v false false gn_lb) (by
    intro j hj
    simp only [List.mem_cons, List.not_mem_nil, or_false] at hj
    rcases hj with rfl | rfl | rfl | rfl | rfl | rfl | rfl | rfl | rfl | rfl | rfl
    · exact ⟨rfl, okr_603 a b c⟩
    · exact ⟨rfl, okr_604 d e f⟩
    · exact ⟨rfl, okr_639 g h⟩
    · exact ⟨rfl, okr_606 d y⟩
    · exact ⟨rfl, okr_607 e⟩
    · exact ⟨rfl, okr_608 f⟩
    · exact ⟨rfl, okr_640 h⟩
    · exact ⟨rfl, okr_611 d v y⟩
    · exact ⟨rfl, okr_612 d e f y⟩
    · exact ⟨rfl, okr_613 y⟩
    · exact ⟨rfl, okr_614 v⟩) (bk_all_mem (.inl (by decide)) (.inr (.inl (by decide))) (.inr (.inl (by decide))) (.inr (.inl (by decide))) (.inr (.inl (by decide))) (.inr (.inl (by decide))) (.inr (.inl (by decide))) (.inl (by decide)) (.inr (.inl (by decide))) (.inr (.inl (by decide))) (.inr (.inl (by decide))) (.inr (.inl (by decide))) (.inr (.inl (by decide))) (.inr (.inr rfl)) (.inl (by decide))) rfl rfl hF hθ) (Nat.le_of_ble_eq_true rfl) (Nat.le_refl _) (Nat.le_refl _) (Nat.le_of_ble_eq_true rfl) (Nat.le_of_ble_eq_true rfl)
theorem chk_is_03_01 : ∀ g h : Bool, bk_chk (xk_is_03 281) [((.ofNat 0, [(41, .ofNat 1)]), .ofNat 1, .ofNat 9), ((.ofNat 0, [(42, .ofNat 1)]), .ofNat 0, .ofNat 9), ((.ofNat 0, [(43, .ofNat 1)]), .ofNat 0, .ofNat 9)] [] [0, 13, 14] [(15, (.ofNat 0, [(41, .ofNat 100), (42, .ofNat 10), (43, .ofNat 1)])), (1042, (.ofNat 0, [(41, .ofNat 100), (42, .ofNat 10), (43, .ofNat 1)]))] [] [] (0, [(0, .inr (.inr (some (.inl 0)))), (1, .inr (.inl (.ofNat 0, [(1042, .ofNat 1)])))], [], kb_OPEN_0 g h false true ++ (gW true ++ (gn_LB ++ ([]))), 300) (66, [], [.inl (.inl (.ofNat 1, []))], kb_OPEN_0 g h false true ++ (gW true ++ (gn_LB ++ ([]))), 300) = true := by decide +kernel
theorem tn_is_03_01 (a b c d e f g h y v : Bool) {z : Nat → Nat} {σ : Nat → Int} (hF : bk_F σ [((.ofNat 0, [(41, .ofNat 1)]), .ofNat 1, .ofNat 9), ((.ofNat 0, [(42, .ofNat 1)]), .ofNat 0, .ofNat 9), ((.ofNat 0, [(43, .ofNat 1)]), .ofNat 0, .ofNat 9)]) (hθ : ∀ q ∈ ([(15, (.ofNat 0, [(41, .ofNat 100), (42, .ofNat 10), (43, .ofNat 1)])), (1042, (.ofNat 0, [(41, .ofNat 100), (42, .ofNat 10), (43, .ofNat 1)]))] : List (Nat × sx_I)), sx_ev σ q.2 = σ q.1) : gx_H 40 sm_L_is 17 690 0 0 z σ (bk_pt 0 [(0, .inr (.inr (some (.inl 0)))), (1, .inr (.inl (.ofNat 0, [(1042, .ofNat 1)])))] [] (gp_OPEN a b c d e f g h y v false true gn_LB) 300) (sx_σi [] σ) (bk_pt 66 [] [.inl (.inl (.ofNat 1, []))] (gp_OPEN a b c d e f g h y v false true gn_LB) 300) :=
  gx_H.mono (bk_T (d := xk_is_03 281) (z := z) (σ := σ) (B0 := (gp_OPEN a b c d e f g h y v false true gn_LB)) (B1 := (gp_OPEN a b c d e f g h y v false true gn_LB)) hM_is (bk_at xko_is_03 0 rfl) (tx := [0, 13, 14]) (rx := [1, 2, 3, 4, 5, 6, 7, 8, 9, 10, 11, 12]) (chk_is_03_01 g h) rfl rfl (gpo_OPEN a b c d e f g h y v false true gn_lb) (gpo_OPEN a b c d e f g h y v false true gn_lb) (by
    intro j hj
    simp only [List.mem_cons, List.not_mem_nil, or_false] at hj
    rcases hj with rfl | rfl | rfl | rfl | rfl | rfl | rfl | rfl | rfl | rfl | rfl | rfl
    · exact ⟨rfl, okr_603 a b c⟩
    · exact ⟨rfl, okr_604 d e f⟩
    · exact ⟨rfl, okr_639 g h⟩
    · exact ⟨rfl, okr_606 d y⟩
    · exact ⟨rfl, okr_607 e⟩
    · exact ⟨rfl, okr_608 f⟩
    · exact ⟨rfl, okr_641 g⟩
    · exact ⟨rfl, okr_640 h⟩
    · exact ⟨rfl, okr_611 d v y⟩
    · exact ⟨rfl, okr_612 d e f y⟩
    · exact ⟨rfl, okr_613 y⟩
    · exact ⟨rfl, okr_614 v⟩) (bk_all_mem (.inl (by decide)) (.inr (.inl (by decide))) (.inr (.inl (by decide))) (.inr (.inl (by decide))) (.inr (.inl (by decide))) (.inr (.inl (by decide))) (.inr (.inl (by decide))) (.inr (.inl (by decide))) (.inr (.inl (by decide))) (.inr (.inl (by decide))) (.inr (.inl (by decide))) (.inr (.inl (by decide))) (.inr (.inl (by decide))) (.inl (by decide)) (.inl (by decide))) rfl rfl hF hθ) (Nat.le_of_ble_eq_true rfl) (Nat.le_refl _) (Nat.le_refl _) (Nat.le_of_ble_eq_true rfl) (Nat.le_of_ble_eq_true rfl)
theorem hok_is_03_10 : ∀ h : Bool, gx_okD sm_L_is 17 690 (xk_is_03 (cond h 272 147)) = true
  | false => bk_at xko_is_03 3 rfl
  | true => bk_at xko_is_03 4 rfl
theorem chk_is_03_10 : ∀ g h : Bool, bk_chk (xk_is_03 (cond h 272 147)) [((.ofNat 0, [(41, .ofNat 1)]), .ofNat 1, .ofNat 9), ((.ofNat 0, [(42, .ofNat 1)]), .ofNat 0, .ofNat 9), ((.ofNat 0, [(43, .ofNat 1)]), .ofNat 0, .ofNat 9)] [] [0, 8, 14] [(36, (.ofNat 0, [(41, .ofNat 100), (42, .ofNat 10), (43, .ofNat 1)])), (1042, (.ofNat 0, [(41, .ofNat 100), (42, .ofNat 10), (43, .ofNat 1)]))] [] [] (0, [(0, .inr (.inr (some (.inl 0)))), (1, .inr (.inl (.ofNat 0, [(1042, .ofNat 1)])))], [], kb_OPEN_0 g h true false ++ (cond true (gH1 h) (gH0 h) ++ (gn_LB ++ ([]))), 300) (66, [], [.inl (.inl (.ofNat 1, []))], kb_OPEN_0 g h true false ++ (cond true (gH1 h) (gH0 h) ++ (gn_LB ++ ([]))), 300) = true := by decide +kernel
theorem tn_is_03_10 (a b c d e f g h y v : Bool) {z : Nat → Nat} {σ : Nat → Int} (hF : bk_F σ [((.ofNat 0, [(41, .ofNat 1)]), .ofNat 1, .ofNat 9), ((.ofNat 0, [(42, .ofNat 1)]), .ofNat 0, .ofNat 9), ((.ofNat 0, [(43, .ofNat 1)]), .ofNat 0, .ofNat 9)]) (hθ : ∀ q ∈ ([(36, (.ofNat 0, [(41, .ofNat 100), (42, .ofNat 10), (43, .ofNat 1)])), (1042, (.ofNat 0, [(41, .ofNat 100), (42, .ofNat 10), (43, .ofNat 1)]))] : List (Nat × sx_I)), sx_ev σ q.2 = σ q.1) : gx_H 40 sm_L_is 17 690 0 0 z σ (bk_pt 0 [(0, .inr (.inr (some (.inl 0)))), (1, .inr (.inl (.ofNat 0, [(1042, .ofNat 1)])))] [] (gp_OPEN a b c d e f g h y v true false gn_LB) 300) (sx_σi [] σ) (bk_pt 66 [] [.inl (.inl (.ofNat 1, []))] (gp_OPEN a b c d e f g h y v true false gn_LB) 300) :=
  gx_H.mono (bk_T (d := xk_is_03 (cond h 272 147)) (z := z) (σ := σ) (B0 := (gp_OPEN a b c d e f g h y v true false gn_LB)) (B1 := (gp_OPEN a b c d e f g h y v true false gn_LB)) hM_is (hok_is_03_10 h) (tx := [0, 8, 14]) (rx := [1, 2, 3, 4, 5, 6, 7, 9, 10, 11, 12]) (chk_is_03_10 g h) rfl rfl (gpo_OPEN a b c d e f g h y v true false gn_lb) (gpo_OPEN a b c d e f g h y v true false gn_lb) (by
    intro j hj
    simp only [List.mem_cons, List.not_mem_nil, or_false] at hj
    rcases hj with rfl | rfl | rfl | rfl | rfl | rfl | rfl | rfl | rfl | rfl | rfl
    · exact ⟨rfl, okr_603 a b c⟩
    · exact ⟨rfl, okr_604 d e f⟩
    · exact ⟨rfl, okr_642 g h⟩
    · exact ⟨rfl, okr_606 d y⟩
    · exact ⟨rfl, okr_607 e⟩
    · exact ⟨rfl, okr_608 f⟩
    · exact ⟨rfl, okr_643 g⟩
    · exact ⟨rfl, okr_611 d v y⟩
    · exact ⟨rfl, okr_612 d e f y⟩
    · exact ⟨rfl, okr_613 y⟩
    · exact ⟨rfl, okr_614 v⟩) (bk_all_mem (.inl (by decide)) (.inr (.inl (by decide))) (.inr (.inl (by decide))) (.inr (.inl (by decide))) (.inr (.inl (by decide))) (.inr (.inl (by decide))) (.inr (.inl (by decide))) (.inr (.inl (by decide))) (.inl (by decide)) (.inr (.inl (by decide))) (.inr (.inl (by decide))) (.inr (.inl (by decide))) (.inr (.inl (by decide))) (.inr (.inr rfl)) (.inl (by decide))) rfl rfl hF hθ) (Nat.le_of_ble_eq_true rfl) (Nat.le_refl _) (Nat.le_refl _) (Nat.le_of_ble_eq_true rfl) (Nat.le_of_ble_eq_true rfl)
theorem chk_is_03_11 : ∀ g h : Bool, bk_chk (xk_is_03 281) [((.ofNat 0, [(41, .ofNat 1)]), .ofNat 1, .ofNat 9), ((.ofNat 0, [(42, .ofNat 1)]), .ofNat 0, .ofNat 9), ((.ofNat 0, [(43, .ofNat 1)]), .ofNat 0, .ofNat 9)] [] [0, 13, 14] [(15, (.ofNat 0, [(41, .ofNat 100), (42, .ofNat 10), (43, .ofNat 1)])), (1042, (.ofNat 0, [(41, .ofNat 100), (42, .ofNat 10), (43, .ofNat 1)]))] [] [] (0, [(0, .inr (.inr (some (.inl 0)))), (1, .inr (.inl (.ofNat 0, [(1042, .ofNat 1)])))], [], kb_OPEN_0 g h true true ++ (gW true ++ (gn_LB ++ ([]))), 300) (66, [], [.inl (.inl (.ofNat 1, []))], kb_OPEN_0 g h true true ++ (gW true ++ (gn_LB ++ ([]))), 300) = true := by decide +kernel
theorem tn_is_03_11 (a b c d e f g h y v : Bool) {z : Nat → Nat} {σ : Nat → Int} (hF : bk_F σ [((.ofNat 0, [(41, .ofNat 1)]), .ofNat 1, .ofNat 9), ((.ofNat 0, [(42, .ofNat 1)]), .ofNat 0, .ofNat 9), ((.ofNat 0, [(43, .ofNat 1)]), .ofNat 0, .ofNat 9)]) (hθ : ∀ q ∈ ([(15, (.ofNat 0, [(41, .ofNat 100), (42, .ofNat 10), (43, .ofNat 1)])), (1042, (.ofNat 0, [(41, .ofNat 100), (42, .ofNat 10), (43, .ofNat 1)]))] : List (Nat × sx_I)), sx_ev σ q.2 = σ q.1) : gx_H 40 sm_L_is 17 690 0 0 z σ (bk_pt 0 [(0, .inr (.inr (some (.inl 0)))), (1, .inr (.inl (.ofNat 0, [(1042, .ofNat 1)])))] [] (gp_OPEN a b c d e f g h y v true true gn_LB) 300) (sx_σi [] σ) (bk_pt 66 [] [.inl (.inl (.ofNat 1, []))] (gp_OPEN a b c d e f g h y v true true gn_LB) 300) :=
  gx_H.mono (bk_T (d := xk_is_03 281) (z := z) (σ := σ) (B0 := (gp_OPEN a b c d e f g h y v true true gn_LB)) (B1 := (gp_OPEN a b c d e f g h y v true true gn_LB)) hM_is (bk_at xko_is_03 0 rfl) (tx := [0, 13, 14]) (rx := [1, 2, 3, 4, 5, 6, 7, 8, 9, 10, 11, 12]) (chk_is_03_11 g h) rfl rfl (gpo_OPEN a b c d e f g h y v true true gn_lb) (gpo_OPEN a b c d e f g h y v true true gn_lb) (by
    intro j hj
    simp only [List.mem_cons, List.not_mem_nil, or_false] at hj
    rcases hj with rfl | rfl | rfl | rfl | rfl | rfl | rfl | rfl | rfl | rfl | rfl | rfl
    · exact ⟨rfl, okr_603 a b c⟩
    · exact ⟨rfl, okr_604 d e f⟩
    · exact ⟨rfl, okr_642 g h⟩
    · exact ⟨rfl, okr_606 d y⟩
    · exact ⟨rfl, okr_607 e⟩
    · exact ⟨rfl, okr_608 f⟩
    · exact ⟨rfl, okr_643 g⟩
    · exact ⟨rfl, okr_644 h⟩
    · exact ⟨rfl, okr_611 d v y⟩
    · exact ⟨rfl, okr_612 d e f y⟩
    · exact ⟨rfl, okr_613 y⟩
    · exact ⟨rfl, okr_614 v⟩) (bk_all_mem (.inl (by decide)) (.inr (.inl (by decide))) (.inr (.inl (by decide))) (.inr (.inl (by decide))) (.inr (.inl (by decide))) (.inr (.inl (by decide))) (.inr (.inl (by decide))) (.inr (.inl (by decide))) (.inr (.inl (by decide))) (.inr (.inl (by decide))) (.inr (.inl (by decide))) (.inr (.inl (by decide))) (.inr (.inl (by decide))) (.inl (by decide)) (.inl (by decide))) rfl rfl hF hθ) (Nat.le_of_ble_eq_true rfl) (Nat.le_refl _) (Nat.le_refl _) (Nat.le_of_ble_eq_true rfl) (Nat.le_of_ble_eq_true rfl)
theorem hok_is_11_00 : ∀ g : Bool, gx_okD sm_L_is 17 690 (xk_is_11 (cond g 271 146)) = true
  | false => bk_at xko_is_11 1 rfl
  | true => bk_at xko_is_11 2 rfl
theorem chk_is_11_00 : ∀ g h : Bool, bk_chk (xk_is_11 (cond g 271 146)) [((.ofNat 0, [(43, .ofNat 1)]), .ofNat 1, .ofNat 9)] [] [0, 7, 14] [(35, (.ofNat 0, [(43, .negSucc 0)])), (1042, (.ofNat 0, [(43, .negSucc 0)]))] [] [] (0, [(0, .inr (.inr (some (.inl 0)))), (1, .inr (.inl (.ofNat 0, [(1042, .ofNat 1)])))], [], kb_OPEN_0 g h false false ++ (cond false (gG0 g) (gG1 g) ++ (gn_LB ++ ([]))), 300) (66, [], [.inl (.inl (.ofNat 1, []))], kb_OPEN_0 g h false false ++ (cond false (gG0 g) (gG1 g) ++ (gn_LB ++ ([]))), 300) = true := by decide +kernel
theorem tn_is_11_00 (a b c d e f g h y v : Bool) {z : Nat → Nat} {σ : Nat → Int} (hF : bk_F σ [((.ofNat 0, [(43, .ofNat 1)]), .ofNat 1, .ofNat 9)]) (hθ : ∀ q ∈ ([(35, (.ofNat 0, [(43, .negSucc 0)])), (1042, (.ofNat 0, [(43, .negSucc 0)]))] : List (Nat × sx_I)), sx_ev σ q.2 = σ q.1) : gx_H 40 sm_L_is 17 690 0 0 z σ (bk_pt 0 [(0, .inr (.inr (some (.inl 0)))), (1, .inr (.inl (.ofNat 0, [(1042, .ofNat 1)])))] [] (gp_OPEN a b c d e f g h y v false false gn_LB) 300) (sx_σi [] σ) (bk_pt 66 [] [.inl (.inl (.ofNat 1, []))] (gp_OPEN a b c d e f g h y v false false gn_LB) 300) :=
  gx_H.mono (bk_T (d := xk_is_11 (cond g 271 146)) (z := z) (σ := σ) (B0 := (gp_OPEN a b c d e f g h y v false false gn_LB)) (B1 := (gp_OPEN a b c d e f g h y v false false gn_LB)) hM_is (hok_is_11_00 g) (tx := [0, 7, 14]) (rx := [1, 2, 3, 4, 5, 6, 8, 9, 10, 11, 12]) (chk_is_11_00 g h) rfl rfl (gpo_OPEN a b c d e f g h y v false false gn_lb) (gpo_OPEN a b c d e f g h y v false false gn_lb) (by
    intro j hj
    simp only [List.mem_cons, List.not_mem_nil, or_false] at hj
    rcases hj with rfl | rfl | rfl | rfl | rfl | rfl | rfl | rfl | rfl | rfl | rfl
    · exact ⟨rfl, okr_603 a b c⟩
    · exact ⟨rfl, okr_604 d e f⟩
    · exact ⟨rfl, okr_639 g h⟩
    · exact ⟨rfl, okr_606 d y⟩
    · exact ⟨rfl, okr_607 e⟩
    · exact ⟨rfl, okr_608 f⟩
    · exact ⟨rfl, okr_640 h⟩
    · exact ⟨rfl, okr_611 d v y⟩
    · exact ⟨rfl, okr_612 d e f y⟩
    · exact ⟨rfl, okr_613 y⟩
    · exact ⟨rfl, okr_614 v⟩) (bk_all_mem (.inl (by decide)) (.inr (.inl (by decide))) (.inr (.inl (by decide))) (.inr (.inl (by decide))) (.inr (.inl (by decide))) (.inr (.inl (by decide))) (.inr (.inl (by decide))) (.inl (by decide)) (.inr (.inl (by decide))) (.inr (.inl (by decide))) (.inr (.inl (by decide))) (.inr (.inl (by decide))) (.inr (.inl (by decide))) (.inr (.inr rfl)) (.inl (by decide))) rfl rfl hF hθ) (Nat.le_of_ble_eq_true rfl) (Nat.le_refl _) (Nat.le_refl _) (Nat.le_of_ble_eq_true rfl) (Nat.le_of_ble_eq_true rfl)
theorem chk_is_11_01 : ∀ g h : Bool, bk_chk (xk_is_11 281) [((.ofNat 0, [(43, .ofNat 1)]), .ofNat 1, .ofNat 9)] [] [0, 13, 14] [(15, (.ofNat 0, [(43, .negSucc 0)])), (1042, (.ofNat 0, [(43, .negSucc 0)]))] [] [] (0, [(0, .inr (.inr (some (.inl 0)))), (1, .inr (.inl (.ofNat 0, [(1042, .ofNat 1)])))], [], kb_OPEN_0 g h false true ++ (gW true ++ (gn_LB ++ ([]))), 300) (66, [], [.inl (.inl (.ofNat 1, []))], kb_OPEN_0 g h false true ++ (gW true ++ (gn_LB ++ ([]))), 300) = true := by decide +kernel
theorem tn_is_11_01 (a b c d e f g h y v : Bool) {z : Nat → Nat} {σ : Nat → Int} (hF : bk_F σ [((.ofNat 0, [(43, .ofNat 1)]), .ofNat 1, .ofNat 9)]) (hθ : ∀ q ∈ ([(15, (.ofNat 0, [(43, .negSucc 0)])), (1042, (.ofNat 0, [(43, .negSucc 0)]))] : List (Nat × sx_I)), sx_ev σ q.2 = σ q.1) : gx_H 40 sm_L_is 17 690 0 0 z σ (bk_pt 0 [(0, .inr (.inr (some (.inl 0)))), (1, .inr (.inl (.ofNat 0, [(1042, .ofNat 1)])))] [] (gp_OPEN a b c d e f g h y v false true gn_LB) 300) (sx_σi [] σ) (bk_pt 66 [] [.inl (.inl (.ofNat 1, []))] (gp_OPEN a b c d e f g h y v false true gn_LB) 300) :=
  gx_H.mono (bk_T (d := xk_is_11 281) (z := z) (σ := σ) (B0 := (gp_OPEN a b c d e f g h y v false true gn_LB)) (B1 := (gp_OPEN a b c d e f g h y v false true gn_LB)) hM_is (bk_at xko_is_11 0 rfl) (tx := [0, 13, 14]) (rx := [1, 2, 3, 4, 5, 6, 7, 8, 9, 10, 11, 12]) (chk_is_11_01 g h) rfl rfl (gpo_OPEN a b c d e f g h y v false true gn_lb) (gpo_OPEN a b c d e f g h y v false true gn_lb) (by
    intro j hj
    simp only [List.mem_cons, List.not_mem_nil, or_false] at hj
    rcases hj with rfl | rfl | rfl | rfl | rfl | rfl | rfl | rfl | rfl | rfl | rfl | rfl
    · exact ⟨rfl, okr_603 a b c⟩
    · exact ⟨rfl, okr_604 d e f⟩
    · exact ⟨rfl, okr_639 g h⟩
    · exact ⟨rfl, okr_606 d y⟩
    · exact ⟨rfl, okr_607 e⟩
    · exact ⟨rfl, okr_608 f⟩
    · exact ⟨rfl, okr_641 g⟩
    · exact ⟨rfl, okr_640 h⟩
    · exact ⟨rfl, okr_611 d v y⟩
    · exact ⟨rfl, okr_612 d e f y⟩
    · exact ⟨rfl, okr_613 y⟩
    · exact ⟨rfl, okr_614 v⟩) (bk_all_mem (.inl (by decide)) (.inr (.inl (by decide))) (.inr (.inl (by decide))) (.inr (.inl (by decide))) (.inr (.inl (by decide))) (.inr (.inl (by decide))) (.inr (.inl (by decide))) (.inr (.inl (by decide))) (.inr (.inl (by decide))) (.inr (.inl (by decide))) (.inr (.inl (by decide))) (.inr (.inl (by decide))) (.inr (.inl (by decide))) (.inl (by decide)) (.inl (by decide))) rfl rfl hF hθ) (Nat.le_of_ble_eq_true rfl) (Nat.le_refl _) (Nat.le_refl _) (Nat.le_of_ble_eq_true rfl) (Nat.le_of_ble_eq_true rfl)
theorem hok_is_11_10 : ∀ h : Bool, gx_okD sm_L_is 17 690 (xk_is_11 (cond h 272 147)) = true
  | false => bk_at xko_is_11 3 rfl
  | true => bk_at xko_is_11 4 rfl
theorem chk_is_11_10 : ∀ g h : Bool, bk_chk (xk_is_11 (cond h 272 147)) [((.ofNat 0, [(43, .ofNat 1)]), .ofNat 1, .ofNat 9)] [] [0, 8, 14] [(36, (.ofNat 0, [(43, .negSucc 0)])), (1042, (.ofNat 0, [(43, .negSucc 0)]))] [] [] (0, [(0, .inr (.inr (some (.inl 0)))), (1, .inr (.inl (.ofNat 0, [(1042, .ofNat 1)])))], [], kb_OPEN_0 g h true false ++ (cond true (gH1 h) (gH0 h) ++ (gn_LB ++ ([]))), 300) (66, [], [.inl (.inl (.ofNat 1, []))], kb_OPEN_0 g h true false ++ (cond true (gH1 h) (gH0 h) ++ (gn_LB ++ ([]))), 300) = true := by decide +kernel
theorem tn_is_11_10 (a b c d e f g h y v : Bool) {z : Nat → Nat} {σ : Nat → Int} (hF : bk_F σ [((.ofNat 0, [(43, .ofNat 1)]), .ofNat 1, .ofNat 9)]) (hθ : ∀ q ∈ ([(36, (.ofNat 0, [(43, .negSucc 0)])), (1042, (.ofNat 0, [(43, .negSucc 0)]))] : List (Nat × sx_I)), sx_ev σ q.2 = σ q.1) : gx_H 40 sm_L_is 17 690 0 0 z σ (bk_pt 0 [(0, .inr (.inr (some (.inl 0)))), (1, .inr (.inl (.ofNat 0, [(1042, .ofNat 1)])))] [] (gp_OPEN a b c d e f g h y v true false gn_LB) 300) (sx_σi [] σ) (bk_pt 66 [] [.inl (.inl (.ofNat 1, []))] (gp_OPEN a b c d e f g h y v true false gn_LB) 300) :=
  gx_H.mono (bk_T (d := xk_is_11 (cond h 272 147)) (z := z) (σ := σ) (B0 := (gp_OPEN a b c d e f g h y v true false gn_LB)) (B1 := (gp_OPEN a b c d e f g h y v true false gn_LB)) hM_is (hok_is_11_10 h) (tx := [0, 8, 14]) (rx := [1, 2, 3, 4, 5, 6, 7, 9, 10, 11, 12]) (chk_is_11_10 g h) rfl rfl (gpo_OPEN a b c d e f g h y v true false gn_lb) (gpo_OPEN a b c d e f g h y v true false gn_lb) (by
    intro j hj
    simp only [List.mem_cons, List.not_mem_nil, or_false] at hj
    rcases hj with rfl | rfl | rfl | rfl | rfl | rfl | rfl | rfl | rfl | rfl | rfl
    · exact ⟨rfl, okr_603 a b c⟩
    · exact ⟨rfl, okr_604 d e f⟩
    · exact ⟨rfl, okr_642 g h⟩
    · exact ⟨rfl, okr_606 d y⟩
    · exact ⟨rfl, okr_607 e⟩
    · exact ⟨rfl, okr_608 f⟩
    · exact ⟨rfl, okr_643 g⟩
    · exact ⟨rfl, okr_611 d v y⟩
    · exact ⟨rfl, okr_612 d e f y⟩
    · exact ⟨rfl, okr_613 y⟩
    · exact ⟨rfl, okr_614 v⟩) (bk_all_mem (.inl (by decide)) (.inr (.inl (by decide))) (.inr (.inl (by decide))) (.inr (.inl (by decide))) (.inr (.inl (by decide))) (.inr (.inl (by decide))) (.inr (.inl (by decide))) (.inr (.inl (by decide))) (.inl (by decide)) (.inr (.inl (by decide))) (.inr (.inl (by decide))) (.inr (.inl (by decide))) (.inr (.inl (by decide))) (.inr (.inr rfl)) (.inl (by decide))) rfl rfl hF hθ) (Nat.le_of_ble_eq_true rfl) (Nat.le_refl _) (Nat.le_refl _) (Nat.le_of_ble_eq_true rfl) (Nat.le_of_ble_eq_true rfl)
theorem chk_is_11_11 : ∀ g h : Bool, bk_chk (xk_is_11 281) [((.ofNat 0, [(43, .ofNat 1)]), .ofNat 1, .ofNat 9)] [] [0, 13, 14] [(15, (.ofNat 0, [(43, .negSucc 0)])), (1042, (.ofNat 0, [(43, .negSucc 0)]))] [] [] (0, [(0, .inr (.inr (some (.inl 0)))), (1, .inr (.inl (.ofNat 0, [(1042, .ofNat 1)])))], [], kb_OPEN_0 g h true true ++ (gW true ++ (gn_LB ++ ([]))), 300) (66, [], [.inl (.inl (.ofNat 1, []))], kb_OPEN_0 g h true true ++ (gW true ++ (gn_LB ++ ([]))), 300) = true := by decide +kernel
theorem tn_is_11_11 (a b c d e f g h y v : Bool) {z : Nat → Nat} {σ : Nat → Int} (hF : bk_F σ [((.ofNat 0, [(43, .ofNat 1)]), .ofNat 1, .ofNat 9)]) (hθ : ∀ q ∈ ([(15, (.ofNat 0, [(43, .negSucc 0)])), (1042, (.ofNat 0, [(43, .negSucc 0)]))] : List (Nat × sx_I)), sx_ev σ q.2 = σ q.1) : gx_H 40 sm_L_is 17 690 0 0 z σ (bk_pt 0 [(0, .inr (.inr (some (.inl 0)))), (1, .inr (.inl (.ofNat 0, [(1042, .ofNat 1)])))] [] (gp_OPEN a b c d e f g h y v true true gn_LB) 300) (sx_σi [] σ) (bk_pt 66 [] [.inl (.inl (.ofNat 1, []))] (gp_OPEN a b c d e f g h y v true true gn_LB) 300) :=
  gx_H.mono (bk_T (d := xk_is_11 281) (z := z) (σ := σ) (B0 := (gp_OPEN a b c d e f g h y v true true gn_LB)) (B1 := (gp_OPEN a b c d e f g h y v true true gn_LB)) hM_is (bk_at xko_is_11 0 rfl) (tx := [0, 13, 14]) (rx := [1, 2, 3, 4, 5, 6, 7, 8, 9, 10, 11, 12]) (chk_is_11_11 g h) rfl rfl (gpo_OPEN a b c d e f g h y v true true gn_lb) (gpo_OPEN a b c d e f g h y v true true gn_lb) (by
    intro j hj
    simp only [List.mem_cons, List.not_mem_nil, or_false] at hj
    rcases hj with rfl | rfl | rfl | rfl | rfl | rfl | rfl | rfl | rfl | rfl | rfl | rfl
    · exact ⟨rfl, okr_603 a b c⟩
    · exact ⟨rfl, okr_604 d e f⟩
    · exact ⟨rfl, okr_642 g h⟩
    · exact ⟨rfl, okr_606 d y⟩
    · exact ⟨rfl, okr_607 e⟩
    · exact ⟨rfl, okr_608 f⟩
    · exact ⟨rfl, okr_643 g⟩
    · exact ⟨rfl, okr_644 h⟩
    · exact ⟨rfl, okr_611 d v y⟩
    · exact ⟨rfl, okr_612 d e f y⟩
    · exact ⟨rfl, okr_613 y⟩
    · exact ⟨rfl, okr_614 v⟩) (bk_all_mem (.inl (by decide)) (.inr (.inl (by decide))) (.inr (.inl (by decide))) (.inr (.inl (by decide))) (.inr (.inl (by decide))) (.inr (.inl (by decide))) (.inr (.inl (by decide))) (.inr (.inl (by decide))) (.inr (.inl (by decide))) (.inr (.inl (by decide))) (.inr (.inl (by decide))) (.inr (.inl (by decide))) (.inr (.inl (by decide))) (.inl (by decide)) (.inl (by decide))) rfl rfl hF hθ) (Nat.le_of_ble_eq_true rfl) (Nat.le_refl _) (Nat.le_refl _) (Nat.le_of_ble_eq_true rfl) (Nat.le_of_ble_eq_true rfl)
theorem hok_is_12_00 : ∀ g : Bool, gx_okD sm_L_is 17 690 (xk_is_12 (cond g 271 146)) = true
  | false => bk_at xko_is_12 1 rfl
  | true => bk_at xko_is_12 2 rfl
theorem chk_is_12_00 : ∀ g h : Bool, bk_chk (xk_is_12 (cond g 271 146)) [((.ofNat 0, [(42, .ofNat 1)]), .ofNat 1, .ofNat 9), ((.ofNat 0, [(43, .ofNat 1)]), .ofNat 0, .ofNat 9)] [] [0, 7, 14] [(35, (.ofNat 0, [(42, .negSucc 9), (43, .negSucc 0)])), (1042, (.ofNat 0, [(42, .negSucc 9), (43, .negSucc 0)]))] [] [] (0, [(0, .inr (.inr (some (.inl 0)))), (1, .inr (.inl (.ofNat 0, [(1042, .ofNat 1)])))], [], kb_OPEN_0 g h false false ++ (cond false (gG0 g) (gG1 g) ++ (gn_LB ++ ([]))), 300) (66, [], [.inl (.inl (.ofNat 1, []))], kb_OPEN_0 g h false false ++ (cond false (gG0 g) (gG1 g) ++ (gn_LB ++ ([]))), 300) = true := by decide +kernel
theorem tn_is_12_00 (a b c d e f g h y v : Bool) {z : Nat → Nat} {σ : Nat → Int} (hF : bk_F σ [((.ofNat 0, [(42, .ofNat 1)]), .ofNat 1, .ofNat 9), ((.ofNat 0, [(43, .ofNat 1)]), .ofNat 0, .ofNat 9)]) (hθ : ∀ q ∈ ([(35, (.ofNat 0, [(42, .negSucc 9), (43, .negSucc 0)])), (1042, (.ofNat 0, [(42, .negSucc 9), (43, .negSucc 0)]))] : List (Nat × sx_I)), sx_ev σ q.2 = σ q.1) : gx_H 40 sm_L_is 17 690 0 0 z σ (bk_pt 0 [(0, .inr (.inr (some (.inl 0)))), (1, .inr (.inl (.ofNat 0, [(1042, .ofNat 1)])))] [] (gp_OPEN a b c d e f g h y v false false gn_LB) 300) (sx_σi [] σ) (bk_pt 66 [] [.inl (.inl (.ofNat 1, []))] (gp_OPEN a b c d e f g h y v false false gn_LB) 300) :=
  gx_H.mono (bk_T (d := xk_is_12 (cond g 271 146)) (z := z) (σ := σ) (B0 := (gp_OPEN a b c d e f g h y v false false gn_LB)) (B1 := (gp_OPEN a b c d e f g h y v false false gn_LB)) hM_is (hok_is_12_00 g) (tx := [0, 7, 14]) (rx := [1, 2, 3, 4, 5, 6, 8, 9, 10, 11, 12]) (chk_is_12_00 g h) rfl rfl (gpo_OPEN a b c d e f g h y v false false gn_lb) (gpo_OPEN a b c d e f g h y v false false gn_lb) (by
    intro j hj
    simp only [List.mem_cons, List.not_mem_nil, or_false] at hj
    rcases hj with rfl | rfl | rfl | rfl | rfl | rfl | rfl | rfl | rfl | rfl | rfl
    · exact ⟨rfl, okr_603 a b c⟩
    · exact ⟨rfl, okr_604 d e f⟩
    · exact ⟨rfl, okr_639 g h⟩
    · exact ⟨rfl, okr_606 d y⟩
    · exact ⟨rfl, okr_607 e⟩
    · exact ⟨rfl, okr_608 f⟩
    · exact ⟨rfl, okr_640 h⟩
    · exact ⟨rfl, okr_611 d v y⟩
    · exact ⟨rfl, okr_612 d e f y⟩
    · exact ⟨rfl, okr_613 y⟩
    · exact ⟨rfl, okr_614 v⟩) (bk_all_mem (.inl (by decide)) (.inr (.inl (by decide))) (.inr (.inl (by decide))) (.inr (.inl (by decide))) (.inr (.inl (by decide))) (.inr (.inl (by decide))) (.inr (.inl (by decide))) (.inl (by decide)) (.inr (.inl (by decide))) (.inr (.inl (by decide))) (.inr (.inl (by decide))) (.inr (.inl (by decide))) (.inr (.inl (by decide))) (.inr (.inr rfl)) (.inl (by decide))) rfl rfl hF hθ) (Nat.le_of_ble_eq_true rfl) (Nat.le_refl _) (Nat.le_refl _) (Nat.le_of_ble_eq_true rfl) (Nat.le_of_ble_eq_true rfl)
theorem chk_is_12_01 : ∀ g h : Bool, bk_chk (xk_is_12 281) [((.ofNat 0, [(42, .ofNat 1)]), .ofNat 1, .ofNat 9), ((.ofNat 0, [(43, .ofNat 1)]), .ofNat 0, .ofNat 9)] [] [0, 13, 14] [(15, (.ofNat 0, [(42, .negSucc 9), (43, .negSucc 0)])), (1042, (.ofNat 0, [(42, .negSucc 9), (43, .negSucc 0)]))] [] [] (0, [(0, .inr (.inr (some (.inl 0)))), (1, .inr (.inl (.ofNat 0, [(1042, .ofNat 1)])))], [], kb_OPEN_0 g h false true ++ (gW true ++ (gn_LB ++ ([]))), 300) (66, [], [.inl (.inl (.ofNat 1, []))], kb_OPEN_0 g h false true ++ (gW true ++ (gn_LB ++ ([]))), 300) = true := by decide +kernel
theorem tn_is_12_01 (a b c d e f g h y v : Bool) {z : Nat → Nat} {σ : Nat → Int} (hF : bk_F σ [((.ofNat 0, [(42, .ofNat 1)]), .ofNat 1, .ofNat 9), ((.ofNat 0, [(43, .ofNat 1)]), .ofNat 0, .ofNat 9)]) (hθ : ∀ q ∈ ([(15, (.ofNat 0, [(42, .negSucc 9), (43, .negSucc 0)])), (1042, (.ofNat 0, [(42, .negSucc 9), (43, .negSucc 0)]))] : List (Nat × sx_I)), sx_ev σ q.2 = σ q.1) : gx_H 40 sm_L_is 17 690 0 0 z σ (bk_pt 0 [(0, .inr (.inr (some (.inl 0)))), (1, .inr (.inl (.ofNat 0, [(1042, .ofNat 1)])))] [] (gp_OPEN a b c d e f g h y v false true gn_LB) 300) (sx_σi [] σ) (bk_pt 66 [] [.inl (.inl (.ofNat 1, []))] (gp_OPEN a b c d e f g h y v false true gn_LB) 300) :=
  gx_H.mono (bk_T (d := xk_is_12 281) (z := z) (σ := σ) (B0 := (gp_OPEN a b c d e f g h y v false true gn_LB)) (B1 := (gp_OPEN a b c d e f g h y v false true gn_LB)) hM_is (bk_at xko_is_12 0 rfl) (tx := [0, 13, 14]) (rx := [1, 2, 3, 4, 5, 6, 7, 8, 9, 10, 11, 12]) (chk_is_12_01 g h) rfl rfl (gpo_OPEN a b c d e f g h y v false true gn_lb) (gpo_OPEN a b c d e f g h y v false true gn_lb) (by
    intro j hj
    simp only [List.mem_cons, List.not_mem_nil, or_false] at hj
    rcases hj with rfl | rfl | rfl | rfl | rfl | rfl | rfl | rfl | rfl | rfl | rfl | rfl
    · exact ⟨rfl, okr_603 a b c⟩
    · exact ⟨rfl, okr_604 d e f⟩
    · exact ⟨rfl, okr_639 g h⟩
    · exact ⟨rfl, okr_606 d y⟩
    · exact ⟨rfl, okr_607 e⟩
    · exact ⟨rfl, okr_608 f⟩
    · exact ⟨rfl, okr_641 g⟩
    · exact ⟨rfl, okr_640 h⟩
    · exact ⟨rfl, okr_611 d v y⟩
    · exact ⟨rfl, okr_612 d e f y⟩
    · exact ⟨rfl, okr_613 y⟩
    · exact ⟨rfl, okr_614 v⟩) (bk_all_mem (.inl (by decide)) (.inr (.inl (by decide))) (.inr (.inl (by decide))) (.inr (.inl (by decide))) (.inr (.inl (by decide))) (.inr (.inl (by decide))) (.inr (.inl (by decide))) (.inr (.inl (by decide))) (.inr (.inl (by decide))) (.inr (.inl (by decide))) (.inr (.inl (by decide))) (.inr (.inl (by decide))) (.inr (.inl (by decide))) (.inl (by decide)) (.inl (by decide))) rfl rfl hF hθ) (Nat.le_of_ble_eq_true rfl) (Nat.le_refl _) (Nat.le_refl _) (Nat.le_of_ble_eq_true rfl) (Nat.le_of_ble_eq_true rfl)
theorem hok_is_12_10 : ∀ h : Bool, gx_okD sm_L_is 17 690 (xk_is_12 (cond h 272 147)) = true
  | false => bk_at xko_is_12 3 rfl
  | true => bk_at xko_is_12 4 rfl
theorem chk_is_12_10 : ∀ g h : Bool, bk_chk (xk_is_12 (cond h 272 147)) [((.ofNat 0, [(42, .ofNat 1)]), .ofNat 1, .ofNat 9), ((.ofNat 0, [(43, .ofNat 1)]), .ofNat 0, .ofNat 9)] [] [0, 8, 14] [(36, (.ofNat 0, [(42, .negSucc 9), (43, .negSucc 0)])), (1042, (.ofNat 0, [(42, .negSucc 9), (43, .negSucc 0)]))] [] [] (0, [(0, .inr (.inr (some (.inl 0)))), (1, .inr (.inl (.ofNat 0, [(1042, .ofNat 1)])))], [], kb_OPEN_0 g h true false ++ (cond true (gH1 h) (gH0 h) ++ (gn_LB ++ ([]))), 300) (66, [], [.inl (.inl (.ofNat 1, []))], kb_OPEN_0 g h true false ++ (cond true (gH1 h) (gH0 h) ++ (gn_LB ++ ([]))), 300) = true := by decide +kernel
theorem tn_is_12_10 (a b c d e f g h y v : Bool) {z : Nat → Nat} {σ : Nat → Int} (hF : bk_F σ [((.ofNat 0, [(42, .ofNat 1)]), .ofNat 1, .ofNat 9), ((.ofNat 0, [(43, .ofNat 1)]), .ofNat 0, .ofNat 9)]) (hθ : ∀ q ∈ ([(36, (.ofNat 0, [(42, .negSucc 9), (43, .negSucc 0)])), (1042, (.ofNat 0, [(42, .negSucc 9), (43, .negSucc 0)]))] : List (Nat × sx_I)), sx_ev σ q.2 = σ q.1) : gx_H 40 sm_L_is 17 690 0 0 z σ (bk_pt 0 [(0, .inr (.inr (some (.inl 0)))), (1, .inr (.inl (.ofNat 0, [(1042, .ofNat 1)])))] [] (gp_OPEN a b c d e f g h y v true false gn_LB) 300) (sx_σi [] σ) (bk_pt 66 [] [.inl (.inl (.ofNat 1, []))] (gp_OPEN a b c d e f g h y v true false gn_LB) 300) :=
  gx_H.mono (bk_T (d := xk_is_12 (cond h 272 147)) (z := z) (σ := σ) (B0 := (gp_OPEN a b c d e f g h y v true false gn_LB)) (B1 := (gp_OPEN a b c d e f g h y v true false gn_LB)) hM_is (hok_is_12_10 h) (tx := [0, 8, 14]) (rx := [1, 2, 3, 4, 5, 6, 7, 9, 10, 11, 12]) (chk_is_12_10 g h) rfl rfl (gpo_OPEN a b c d e f g h y v true false gn_lb) (gpo_OPEN a b c d e f g h y v true false gn_lb) (by
    intro j hj
    simp only [List.mem_cons, List.not_mem_nil, or_false] at hj
    rcases hj with rfl | rfl | rfl | rfl | rfl | rfl | rfl | rfl | rfl | rfl | rfl
    · exact ⟨rfl, okr_603 a b c⟩
    · exact ⟨rfl, okr_604 d e f⟩
    · exact ⟨rfl, okr_642 g h⟩
    · exact ⟨rfl, okr_606 d y⟩
    · exact ⟨rfl, okr_607 e⟩
    · exact ⟨rfl, okr_608 f⟩
    · exact ⟨rfl, okr_643 g⟩
    · exact ⟨rfl, okr_611 d v y⟩
    · exact ⟨rfl, okr_612 d e f y⟩
    · exact ⟨rfl, okr_613 y⟩
    · exact ⟨rfl, okr_614 v⟩) (bk_all_mem (.inl (by decide)) (.inr (.inl (by decide))) (.inr (.inl (by decide))) (.inr (.inl (by decide))) (.inr (.inl (by decide))) (.inr (.inl (by decide))) (.inr (.inl (by decide))) (.inr (.inl (by decide))) (.inl (by decide)) (.inr (.inl (by decide))) (.inr (.inl (by decide))) (.inr (.inl (by decide))) (.inr (.inl (by decide))) (.inr (.inr rfl)) (.inl (by decide))) rfl rfl hF hθ) (Nat.le_of_ble_eq_true rfl) (Nat.le_refl _) (Nat.le_refl _) (Nat.le_of_ble_eq_true rfl) (Nat.le_of_ble_eq_true rfl)
theorem chk_is_12_11 : ∀ g h : Bool, bk_chk (xk_is_12 281) [((.ofNat 0, [(42, .ofNat 1)]), .ofNat 1, .ofNat 9), ((.ofNat 0, [(43, .ofNat 1)]), .ofNat 0, .ofNat 9)] [] [0, 13, 14] [(15, (.ofNat 0, [(42, .negSucc 9), (43, .negSucc 0)])), (1042, (.ofNat 0, [(42, .negSucc 9), (43, .negSucc 0)]))] [] [] (0, [(0, .inr (.inr (some (.inl 0)))), (1, .inr (.inl (.ofNat 0, [(1042, .ofNat 1)])))], [], kb_OPEN_0 g h true true ++ (gW true ++ (gn_LB ++ ([]))), 300) (66, [], [.inl (.inl (.ofNat 1, []))], kb_OPEN_0 g h true true ++ (gW true ++ (gn_LB ++ ([]))), 300) = true := by decide +kernel
theorem tn_is_12_11 (a b c d e f g h y v : Bool) {z : Nat → Nat} {σ : Nat → Int} (hF : bk_F σ [((.ofNat 0, [(42, .ofNat 1)]), .ofNat 1, .ofNat 9), ((.ofNat 0, [(43, .ofNat 1)]), .ofNat 0, .ofNat 9)]) (hθ : ∀ q ∈ ([(15, (.ofNat 0, [(42, .negSucc 9), (43, .negSucc 0)])), (1042, (.ofNat 0, [(42, .negSucc 9), (43, .negSucc 0)]))] : List (Nat × sx_I)), sx_ev σ q.2 = σ q.1) : gx_H 40 sm_L_is 17 690 0 0 z σ (bk_pt 0 [(0, .inr (.inr (some (.inl 0)))), (1, .inr (.inl (.ofNat 0, [(1042, .ofNat 1)])))] [] (gp_OPEN a b c d e f g h y v true true gn_LB) 300) (sx_σi [] σ) (bk_pt 66 [] [.inl (.inl (.ofNat 1, []))] (gp_OPEN a b c d e f g h y v true true gn_LB) 300) :=
  gx_H.mono (bk_T (d := xk_is_12 281) (z := z) (σ := σ) (B0 := (gp_OPEN a b c d e f g h y v true true gn_LB)) (B1 := (gp_OPEN a b c d e f g h y v true true gn_LB)) hM_is (bk_at xko_is_12 0 rfl) (tx := [0, 13, 14]) (rx := [1, 2, 3, 4, 5, 6, 7, 8, 9, 10, 11, 12]) (chk_is_12_11 g h) rfl rfl (gpo_OPEN a b c d e f g h y v true true gn_lb) (gpo_OPEN a b c d e f g h y v true true gn_lb) (by
    intro j hj
    simp only [List.mem_cons, List.not_mem_nil, or_false] at hj
    rcases hj with rfl | rfl | rfl | rfl | rfl | rfl | rfl | rfl | rfl | rfl | rfl | rfl
    · exact ⟨rfl, okr_603 a b c⟩
    · exact ⟨rfl, okr_604 d e f⟩
    · exact ⟨rfl, okr_642 g h⟩
    · exact ⟨rfl, okr_606 d y⟩
    · exact ⟨rfl, okr_607 e⟩
    · exact ⟨rfl, okr_608 f⟩
    · exact ⟨rfl, okr_643 g⟩
    · exact ⟨rfl, okr_644 h⟩
    · exact ⟨rfl, okr_611 d v y⟩
    · exact ⟨rfl, okr_612 d e f y⟩
    · exact ⟨rfl, okr_613 y⟩
    · exact ⟨rfl, okr_614 v⟩) (bk_all_mem (.inl (by decide)) (.inr (.inl (by decide))) (.inr (.inl (by decide))) (.inr (.inl (by decide))) (.inr (.inl (by decide))) (.inr (.inl (by decide))) (.inr (.inl (by decide))) (.inr (.inl (by decide))) (.inr (.inl (by decide))) (.inr (.inl (by decide))) (.inr (.inl (by decide))) (.inr (.inl (by decide))) (.inr (.inl (by decide))) (.inl (by decide)) (.inl (by decide))) rfl rfl hF hθ) (Nat.le_of_ble_eq_true rfl) (Nat.le_refl _) (Nat.le_refl _) (Nat.le_of_ble_eq_true rfl) (Nat.le_of_ble_eq_true rfl)
theorem hok_is_13_00 : ∀ g : Bool, gx_okD sm_L_is 17 690 (xk_is_13 (cond g 271 146)) = true
  | false => bk_at xko_is_13 1 rfl
  | true => bk_at xko_is_13 2 rfl
theorem chk_is_13_00 : ∀ g h : Bool, bk_chk (xk_is_13 (cond g 271 146)) [((.ofNat 0, [(41, .ofNat 1)]), .ofNat 1, .ofNat 9), ((.ofNat 0, [(42, .ofNat 1)]), .ofNat 0, .ofNat 9), ((.ofNat 0, [(43, .ofNat 1)]), .ofNat 0, .ofNat 9)] [] [0, 7, 14] [(35, (.ofNat 0, [(41, .negSucc 99), (42, .negSucc 9), (43, .negSucc 0)])), (1042, (.ofNat 0, [(41, .negSucc 99), (42, .negSucc 9), (43, .negSucc 0)]))] [] [] (0, [(0, .inr (.inr (some (.inl 0)))), (1, .inr (.inl (.ofNat 0, [(1042, .ofNat 1)])))], [], kb_OPEN_0 g h false false ++ (cond false (gG0 g) (gG1 g) ++ (gn_LB ++ ([]))), 300) (66, [], [.inl (.inl (.ofNat 1, []))], kb_OPEN_0 g h false false ++ (cond false (gG0 g) (gG1 g) ++ (gn_LB ++ ([]))), 300) = true := by decide +kernel
theorem tn_is_13_00 (a b c d e f g h y v : Bool) {z : Nat → Nat} {σ : Nat → Int} (hF : bk_F σ [((.ofNat 0, [(41, .ofNat 1)]), .ofNat 1, .ofNat 9), ((.ofNat 0, [(42, .ofNat 1)]), .ofNat 0, .ofNat 9), ((.ofNat 0, [(43, .ofNat 1)]), .ofNat 0, .ofNat 9)]) (hθ : ∀ q ∈ ([(35, (.ofNat 0, [(41, .negSucc 99), (42, .negSucc 9), (43, .negSucc 0)])), (1042, (.ofNat 0, [(41, .negSucc 99), (42, .negSucc 9), (43, .negSucc 0)]))] : List (Nat × sx_I)), sx_ev σ q.2 = σ q.1) : gx_H 40 sm_L_is 17 690 0 0 z σ (bk_pt 0 [(0, .inr (.inr (some (.inl 0)))), (1, .inr (.inl (.ofNat 0, [(1042, .ofNat 1)])))] [] (gp_OPEN a b c d e f g h y v false false gn_LB) 300) (sx_σi [] σ) (bk_pt 66 [] [.inl (.inl (.ofNat 1, []))] (gp_OPEN a b c d e f g h y v false false gn_LB) 300) :=
  gx_H.mono (bk_T (d := xk_is_13 (cond g 271 146)) (z := z) (σ := σ) (B0 := (gp_OPEN a b c d e f g h y v false false gn_LB)) (B1 := (gp_OPEN a b c d e f g h y v false false gn_LB)) hM_is (hok_is_13_00 g) (tx := [0, 7, 14]) (rx := [1, 2, 3, 4, 5, 6, 8, 9, 10, 11, 12]) (chk_is_13_00 g h) rfl rfl (gpo_OPEN a b c d e f g h y v false false gn_lb) (gpo_OPEN a b c d e f g h y v false false gn_lb) (by
    intro j hj
    simp only [List.mem_cons, List.not_mem_nil, or_false] at hj
    rcases hj with rfl | rfl | rfl | rfl | rfl | rfl | rfl | rfl | rfl | rfl | rfl
    · exact ⟨rfl, okr_603 a b c⟩
    · exact ⟨rfl, okr_604 d e f⟩
    · exact ⟨rfl, okr_639 g h⟩
    · exact ⟨rfl, okr_606 d y⟩
    · exact ⟨rfl, okr_607 e⟩
    · exact ⟨rfl, okr_608 f⟩
    · exact ⟨rfl, okr_640 h⟩
    · exact ⟨rfl, okr_611 d v y⟩
    · exact ⟨rfl, okr_612 d e f y⟩
    · exact ⟨rfl, okr_613 y⟩
    · exact ⟨rfl, okr_614 v⟩) (bk_all_mem (.inl (by decide)) (.inr (.inl (by decide))) (.inr (.inl (by decide))) (.inr (.inl (by decide))) (.inr (.inl (by decide))) (.inr (.inl (by decide))) (.inr (.inl (by decide))) (.inl (by decide)) (.inr (.inl (by decide))) (.inr (.inl (by decide))) (.inr (.inl (by decide))) (.inr (.inl (by decide))) (.inr (.inl (by decide))) (.inr (.inr rfl)) (.inl (by decide))) rfl rfl hF hθ) (Nat.le_of_ble_eq_true rfl) (Nat.le_refl _) (Nat.le_refl _) (Nat.le_of_ble_eq_true rfl) (Nat.le_of_ble_eq_true rfl)
theorem chk_is_13_01 : ∀ g h : Bool, bk_chk (xk_is_13 281) [((.ofNat 0, [(41, .ofNat 1)]), .ofNat 1, .ofNat 9), ((.ofNat 0, [(42, .ofNat 1)]), .ofNat 0, .ofNat 9), ((.ofNat 0, [(43, .ofNat 1)]), .ofNat 0, .ofNat 9)] [] [0, 13, 14] [(15, (.ofNat 0, [(41, .negSucc 99), (42, .negSucc 9), (43, .negSucc 0)])), (1042, (.ofNat 0, [(41, .negSucc 99), (42, .negSucc 9), (43, .negSucc 0)]))] [] [] (0, [(0, .inr (.inr (some (.inl 0)))), (1, .inr (.inl (.ofNat 0, [(1042, .ofNat 1)])))], [], kb_OPEN_0 g h false true ++ (gW true ++ (gn_LB ++ ([]))), 300) (66, [], [.inl (.inl (.ofNat 1, []))], kb_OPEN_0 g h false true ++ (gW true ++ (gn_LB ++ ([]))), 300) = true := by decide +kernel
theorem tn_is_13_01 (a b c d e f g h y v : Bool) {z : Nat → Nat} {σ : Nat → Int} (hF : bk_F σ [((.ofNat 0, [(41, .ofNat 1)]), .ofNat 1, .ofNat 9), ((.ofNat 0, [(42, .ofNat 1)]), .ofNat 0, .ofNat 9), ((.ofNat 0, [(43, .ofNat 1)]), .ofNat 0, .ofNat 9)]) (hθ : ∀ q ∈ ([(15, (.ofNat 0, [(41, .negSucc 99), (42, .negSucc 9), (43, .negSucc 0)])), (1042, (.ofNat 0, [(41, .negSucc 99), (42, .negSucc 9), (43, .negSucc 0)]))] : List (Nat × sx_I)), sx_ev σ q.2 = σ q.1) : gx_H 40 sm_L_is 17 690 0 0 z σ (bk_pt 0 [(0, .inr (.inr (some (.inl 0)))), (1, .inr (.inl (.ofNat 0, [(1042, .ofNat 1)])))] [] (gp_OPEN a b c d e f g h y v false true gn_LB) 300) (sx_σi [] σ) (bk_pt 66 [] [.inl (.inl (.ofNat 1, []))] (gp_OPEN a b c d e f g h y v false true gn_LB) 300) :=
  gx_H.mono (bk_T (d := xk_is_13 281) (z := z) (σ := σ) (B0 := (gp_OPEN a b c d e f g h y v false true gn_LB)) (B1 := (gp_OPEN a b c d e f g h y v false true gn_LB)) hM_is (bk_at xko_is_13 0 rfl) (tx := [0, 13, 14]) (rx := [1, 2, 3, 4, 5, 6, 7, 8, 9, 10, 11, 12]) (chk_is_13_01 g h) rfl rfl (gpo_OPEN a b c d e f g h y v false true gn_lb) (gpo_OPEN a b c d e f g h y v false true gn_lb) (by
    intro j hj
    simp only [List.mem_cons, List.not_mem_nil, or_false] at hj
    rcases hj with rfl | rfl | rfl | rfl | rfl | rfl | rfl | rfl | rfl | rfl | rfl | rfl
    · exact ⟨rfl, okr_603 a b c⟩
    · exact ⟨rfl, okr_604 d e f⟩
    · exact ⟨rfl, okr_639 g h⟩
    · exact ⟨rfl, okr_606 d y⟩
    · exact ⟨rfl, okr_607 e⟩
    · exact ⟨rfl, okr_608 f⟩
    · exact ⟨rfl, okr_641 g⟩
    · exact ⟨rfl, okr_640 h⟩
    · exact ⟨rfl, okr_611 d v y⟩
    · exact ⟨rfl, okr_612 d e f y⟩
    · exact ⟨rfl, okr_613 y⟩
    · exact ⟨rfl, okr_614 v⟩) (bk_all_mem (.inl (by decide)) (.inr (.inl (by decide))) (.inr (.inl (by decide))) (.inr (.inl (by decide))) (.inr (.inl (by decide))) (.inr (.inl (by decide))) (.inr (.inl (by decide))) (.inr (.inl (by decide))) (.inr (.inl (by decide))) (.inr (.inl (by decide))) (.inr (.inl (by decide))) (.inr (.inl (by decide))) (.inr (.inl (by decide))) (.inl (by decide)) (.inl (by decide))) rfl rfl hF hθ) (Nat.le_of_ble_eq_true rfl) (Nat.le_refl _) (Nat.le_refl _) (Nat.le_of_ble_eq_true rfl) (Nat.le_of_ble_eq_true rfl)
theorem hok_is_13_10 : ∀ h : Bool, gx_okD sm_L_is 17 690 (xk_is_13 (cond h 272 147)) = true
  | false => bk_at xko_is_13 3 rfl
  | true => bk_at xko_is_13 4 rfl
theorem chk_is_13_10 : ∀ g h : Bool, bk_chk (xk_is_13 (cond h 272 147)) [((.ofNat 0, [(41, .ofNat 1)]), .ofNat 1, .ofNat 9), ((.ofNat 0, [(42, .ofNat 1)]), .ofNat 0, .ofNat 9), ((.ofNat 0, [(43, .ofNat 1)]), .ofNat 0, .ofNat 9)] [] [0, 8, 14] [(36, (.ofNat 0, [(41, .negSucc 99), (42, .negSucc 9), (43, .negSucc 0)])), (1042, (.ofNat 0, [(41, .negSucc 99), (42, .negSucc 9), (43, .negSucc 0)]))] [] [] (0, [(0, .inr (.inr (some (.inl 0)))), (1, .inr (.inl (.ofNat 0, [(1042, .ofNat 1)])))], [], kb_OPEN_0 g h true false ++ (cond true (gH1 h) (gH0 h) ++ (gn_LB ++ ([]))), 300) (66, [], [.inl (.inl (.ofNat 1, []))], kb_OPEN_0 g h true false ++ (cond true (gH1 h) (gH0 h) ++ (gn_LB ++ ([]))), 300) = true := by decide +kernel
theorem tn_is_13_10 (a b c d e f g h y v : Bool) {z : Nat → Nat} {σ : Nat → Int} (hF : bk_F σ [((.ofNat 0, [(41, .ofNat 1)]), .ofNat 1, .ofNat 9), ((.ofNat 0, [(42, .ofNat 1)]), .ofNat 0, .ofNat 9), ((.ofNat 0, [(43, .ofNat 1)]), .ofNat 0, .ofNat 9)]) (hθ : ∀ q ∈ ([(36, (.ofNat 0, [(41, .negSucc 99), (42, .negSucc 9), (43, .negSucc 0)])), (1042, (.ofNat 0, [(41, .negSucc 99), (42, .negSucc 9), (43, .negSucc 0)]))] : List (Nat × sx_I)), sx_ev σ q.2 = σ q.1) : gx_H 40 sm_L_is 17 690 0 0 z σ (bk_pt 0 [(0, .inr (.inr (some (.inl 0)))), (1, .inr (.inl (.ofNat 0, [(1042, .ofNat 1)])))] [] (gp_OPEN a b c d e f g h y v true false gn_LB) 300) (sx_σi [] σ) (bk_pt 66 [] [.inl (.inl (.ofNat 1, []))] (gp_OPEN a b c d e f g h y v true false gn_LB) 300) :=
  gx_H.mono (bk_T (d := xk_is_13 (cond h 272 147)) (z := z) (σ := σ) (B0 := (gp_OPEN a b c d e f g h y v true false gn_LB)) (B1 := (gp_OPEN a b c d e f g h y v true false gn_LB)) hM_is (hok_is_13_10 h) (tx := [0, 8, 14]) (rx := [1, 2, 3, 4, 5, 6, 7, 9, 10, 11, 12]) (chk_is_13_10 g h) rfl rfl (gpo_OPEN a b c d e f g h y v true false gn_lb) (gpo_OPEN a b c d e f g h y v true false gn_lb) (by
    intro j hj
    simp only [List.mem_cons, List.not_mem_nil, or_false] at hj
    rcases hj with rfl | rfl | rfl | rfl | rfl | rfl | rfl | rfl | rfl | rfl | rfl
    · exact ⟨rfl, okr_603 a b c⟩
    · exact ⟨rfl, okr_604 d e f⟩
    · exact ⟨rfl, okr_642 g h⟩
    · exact ⟨rfl, okr_606 d y⟩
    · exact ⟨rfl, okr_607 e⟩
    · exact ⟨rfl, okr_608 f⟩
    · exact ⟨rfl, okr_643 g⟩
    · exact ⟨rfl, okr_611 d v y⟩
    · exact ⟨rfl, okr_612 d e f y⟩
    · exact ⟨rfl, okr_613 y⟩
    · exact ⟨rfl, okr_614 v⟩) (bk_all_mem (.inl (by decide)) (.inr (.inl (by decide))) (.inr (.inl (by decide))) (.inr (.inl (by decide))) (.inr (.inl (by decide))) (.inr (.inl (by decide))) (.inr (.inl (by decide))) (.inr (.inl (by decide))) (.inl (by decide)) (.inr (.inl (by decide))) (.inr (.inl (by decide))) (.inr (.inl (by decide))) (.inr (.inl (by decide))) (.inr (.inr rfl)) (.inl (by decide))) rfl rfl hF hθ) (Nat.le_of_ble_eq_true rfl) (Nat.le_refl _) (Nat.le_refl _) (Nat.le_of_ble_eq_true rfl) (Nat.le_of_ble_eq_true rfl)
theorem chk_is_13_11 : ∀ g h : Bool, bk_chk (xk_is_13 281) [((.ofNat 0, [(41, .ofNat 1)]), .ofNat 1, .ofNat 9), ((.ofNat 0, [(42, .ofNat 1)]), .ofNat 0, .ofNat 9), ((.ofNat 0, [(43, .ofNat 1)]), .ofNat 0, .ofNat 9)] [] [0, 13, 14] [(15, (.ofNat 0, [(41, .negSucc 99), (42, .negSucc 9), (43, .negSucc 0)])), (1042, (.ofNat 0, [(41, .negSucc 99), (42, .negSucc 9), (43, .negSucc 0)]))] [] [] (0, [(0, .inr (.inr (some (.inl 0)))), (1, .inr (.inl (.ofNat 0, [(1042, .ofNat 1)])))], [], kb_OPEN_0 g h true true ++ (gW true ++ (gn_LB ++ ([]))), 300) (66, [], [.inl (.inl (.ofNat 1, []))], kb_OPEN_0 g h true true ++ (gW true ++ (gn_LB ++ ([]))), 300) = true := by decide +kernel
theorem tn_is_13_11 (a b c d e f g h y v : Bool) {z : Nat → Nat} {σ : Nat → Int} (hF : bk_F σ [((.ofNat 0, [(41, .ofNat 1)]), .ofNat 1, .ofNat 9), ((.ofNat 0, [(42, .ofNat 1)]), .ofNat 0, .ofNat 9), ((.ofNat 0, [(43, .ofNat 1)]), .ofNat 0, .ofNat 9)]) (hθ : ∀ q ∈ ([(15, (.ofNat 0, [(41, .negSucc 99), (42, .negSucc 9), (43, .negSucc 0)])), (1042, (.ofNat 0, [(41, .negSucc 99), (42, .negSucc 9), (43, .negSucc 0)]))] : List (Nat × sx_I)), sx_ev σ q.2 = σ q.1) : gx_H 40 sm_L_is 17 690 0 0 z σ (bk_pt 0 [(0, .inr (.inr (some (.inl 0)))), (1, .inr (.inl (.ofNat 0, [(1042, .ofNat 1)])))] [] (gp_OPEN a b c d e f g h y v true true gn_LB) 300) (sx_σi [] σ) (bk_pt 66 [] [.inl (.inl (.ofNat 1, []))] (gp_OPEN a b c d e f g h y v true true gn_LB) 300) :=
  gx_H.mono (bk_T (d := xk_is_13 281) (z := z) (σ := σ) (B0 := (gp_OPEN a b c d e f g h y v true true gn_LB)) (B1 := (gp_OPEN a b c d e f g h y v true true gn_LB)) hM_is (bk_at xko_is_13 0 rfl) (tx := [0, 13, 14]) (rx := [1, 2, 3, 4, 5, 6, 7, 8, 9, 10, 11, 12]) (chk_is_13_11 g h) rfl rfl (gpo_OPEN a b c d e f g h y v true true gn_lb) (gpo_OPEN a b c d e f g h y v true true gn_lb) (by
    intro j hj
    simp only [List.mem_cons, List.not_mem_nil, or_false] at hj
    rcases hj with rfl | rfl | rfl | rfl | rfl | rfl | rfl | rfl | rfl | rfl | rfl | rfl
    · exact ⟨rfl, okr_603 a b c⟩
    · exact ⟨rfl, okr_604 d e f⟩
    · exact ⟨rfl, okr_642 g h⟩
    · exact ⟨rfl, okr_606 d y⟩
    · exact ⟨rfl, okr_607 e⟩
    · exact ⟨rfl, okr_608 f⟩
    · exact ⟨rfl, okr_643 g⟩
    · exact ⟨rfl, okr_644 h⟩
    · exact ⟨rfl, okr_611 d v y⟩
    · exact ⟨rfl, okr_612 d e f y⟩
    · exact ⟨rfl, okr_613 y⟩
    · exact ⟨rfl, okr_614 v⟩) (bk_all_mem (.inl (by decide)) (.inr (.inl (by decide))) (.inr (.inl (by decide))) (.inr (.inl (by decide))) (.inr (.inl (by decide))) (.inr (.inl (by decide))) (.inr (.inl (by decide))) (.inr (.inl (by decide))) (.inr (.inl (by decide))) (.inr (.inl (by decide))) (.inr (.inl (by decide))) (.inr (.inl (by decide))) (.inr (.inl (by decide))) (.inl (by decide)) (.inl (by decide))) rfl rfl hF hθ) (Nat.le_of_ble_eq_true rfl) (Nat.le_refl _) (Nat.le_refl _) (Nat.le_of_ble_eq_true rfl) (Nat.le_of_ble_eq_true rfl)
