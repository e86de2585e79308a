/-! the goal's call: before the reading, behind it; the law's rows 212 to 216 -/
def pG0 : List (Nat × sx_C) := [(0, .inl (14, [some (.inr (.inr (some (.inl 41)))), some (.inl (.inl (.ofNat 0, [(50, .ofNat 1)]))), none, some (.inr (.inr (some (.inl 9)))), none, some (.inr (.inr (some (.inl 3)))), some (.inr (.inr (some (.inl 40)))), none, none, some (.inr (.inr (some (.inl 31)))), none])), (9, .inr (7, 3, false, [(0, .inr (.inr (some (.inl 1))))])), (1, .inl (10, [some (.inr (.inr (some (.inl 3)))), some (.inr (.inr (some (.inr 1000)))), some (.inr (.inr (some (.inl 2)))), none, none, none, none, none, none, none, none, none, none, some (.inr (.inr (some (.inl 12)))), none, none, some (.inl (.inl (.ofNat 0, []))), some (.inr (.inr none)), none, none, none])), (2, .inr (0, 18, false, [(0, .inl (.inl (.ofNat 0, []))), (1, .inl (.inl (.ofNat 0, [(19, .ofNat 1)]))), (14, .inl (.inl (.ofNat 0, []))), (15, .inl (.inl (.ofNat 0, []))), (17, .inl (.inl (.ofNat 0, [(21, .ofNat 1)])))])), (3, pkit), (4, .inr (5, 32, false, [])), (5, .inr (5, 32, false, [])), (6, .inr (5, 22, false, [(8, .inr (.inr (some (.inl 8))))])), (7, .inl (13, [some (.inl (.inl (.ofNat 0, []))), none, none, none, none, none, none, none, none, none, none])), (8, .inl (13, [some (.inl (.inl (.ofNat 1, []))), some (.inr (.inl (.ofNat 0, []))), some (.inr (.inr none)), none, none, none, none, none, some (.inr (.inr none)), none, none])), (30, .inr (0, 20, false, [(6, .inl (.inl (.ofNat 0, [(1020, .ofNat 1)]))), (7, .inl (.inl (.ofNat 0, [(1021, .ofNat 1)]))), (8, .inl (.inl (.ofNat 0, [(1022, .ofNat 1)]))), (9, .inl (.inl (.ofNat 0, [(1023, .ofNat 1)]))), (10, .inl (.inl (.ofNat 0, [(1024, .ofNat 1)]))), (11, .inl (.inl (.ofNat 0, [(1025, .ofNat 1)])))])), (31, .inr (1, 2100, false, [])), (32, .inr (1, 2100, false, [])), (33, pxw), (34, .inr (5, 13, false, [(3, .inr (.inr (some (.inl 35))))])), (35, .inl (13, [none, none, none, some (.inr (.inr (some (.inl 36)))), some (.inl (.inl (.ofNat 0, []))), none, none, none, none, none, none])), (36, .inr (1, 520, false, [])), (40, .inl (9, [none, none, none, none, none, none, none, none, none, none, none, none, none, none, none, some (.inr (.inr (some (.inl 42)))), some (.inr (.inr (some (.inl 43)))), some (.inr (.inr (some (.inl 44)))), none, none, none, none, none])), (41, .inr (1, 8000, false, ptx)), (42, .inr (0, 700, false, [])), (43, .inr (9, 700, false, [])), (44, .inr (9, 700, false, []))]
def pGL : List (Nat × sx_V) := [(0, pI 0), (2, pI 1), (3, pI 45), (4, pI 47)]
def pu0 : gx_D := ([pBs false], [47], (0, [(0, pI 0), (1, pC 0)], [], pG0, 400), 13, 194, 40, [(45, 400), (47, 410), (40, 40), (41, 41), (46, 401), (48, 411), (42, 42), (43, 43), (44, 44)], [], (47, pGL, [pI 40], pA0, 400))
def pctx8 : List (Nat × sx_C) := [(0, .inl (14, [none, none, none, some (.inr (.inr (some (.inl 9)))), none, some (.inr (.inr (some (.inl 3)))), none, none, none, some (.inr (.inr (some (.inl 31)))), none])), (1, .inl (10, [some (.inr (.inr (some (.inl 3)))), none, some (.inr (.inr (some (.inl 2)))), none, none, none, none, none, none, none, none, none, none, some (.inr (.inr (some (.inl 12)))), none, none, some (.inl (.inl (.ofNat 0, []))), some (.inr (.inr none)), none, some (.inr (.inr (some (.inl 360)))), none])), (2, .inr (0, 18, false, [(0, .inl (.inl (.ofNat 0, []))), (1, .inl (.inl (.ofNat 0, [(19, .ofNat 1)]))), (14, .inl (.inl (.ofNat 1, []))), (17, .inl (.inl (.ofNat 0, [(21, .ofNat 1)])))])), (3, pkit), (4, .inr (5, 32, false, [])), (5, .inr (5, 32, false, [])), (6, .inr (5, 22, false, [(8, .inr (.inr (some (.inl 8))))])), (7, .inl (13, [some (.inl (.inl (.ofNat 0, []))), none, none, none, none, none, none, none, none, none, none])), (8, .inl (13, [some (.inl (.inl (.ofNat 1, []))), some (.inr (.inl (.ofNat 0, []))), some (.inr (.inr none)), none, none, none, none, none, some (.inr (.inr none)), none, none])), (9, .inr (7, 3, false, [(0, .inr (.inr (some (.inl 1))))])), (30, .inr (0, 20, false, [(6, .inl (.inl (.ofNat 0, [(1020, .ofNat 1)]))), (7, .inl (.inl (.ofNat 0, [(1021, .ofNat 1)]))), (8, .inl (.inl (.ofNat 0, [(1022, .ofNat 1)]))), (9, .inl (.inl (.ofNat 0, [(1023, .ofNat 1)]))), (10, .inl (.inl (.ofNat 0, [(1024, .ofNat 1)]))), (11, .inl (.inl (.ofNat 0, [(1025, .ofNat 1)])))])), (31, .inr (1, 2100, false, [])), (32, .inr (1, 2100, false, [])), (33, pxw), (34, .inr (5, 13, false, [(3, .inr (.inr (some (.inl 35))))])), (35, .inl (13, [none, none, none, some (.inr (.inr (some (.inl 36)))), some (.inl (.inl (.ofNat 0, []))), none, none, none, none, none, none])), (36, .inr (1, 520, false, []))]
def pfr8 (n : Nat) : List (Nat × sx_C) := [(360, .inl (4, [some (.inr (.inr none)), some (.inr (.inr none)), none, none, some (.inr (.inr (some (.inl 362)))), some (.inr (.inr (some (.inl 361)))), some (.inr (.inr (some (.inl 12)))), none, none, none, none, none, some (.inl (.inl (.ofNat 15, []))), none, none, none, none])), (362, .inl (4, [some (pI (pnI n)), some (.inr (.inr (some (.inl 360)))), some (.inr (.inr none)), some (.inr (.inr none)), some (.inr (.inr none)), some (.inr (.inr (some (.inl 361)))), some (.inr (.inr (some (.inl 12)))), none, none, none, none, none, some (.inl (.inl (.ofNat 0, []))), none, some (.inr (.inl (.ofNat 0, []))), none, none]))]
def pA11 (a b c d e f g h : Bool) : List (Nat × sx_C) := pctx8 ++ (pfr8 (Nat.add 13 (Nat.add (Nat.add (k3 a b c) (k3 d e f)) (k2' g h))) ++ (ptoc 0 a (some (.inl (.inl (.negSucc 0, [])))) (pI (pnI (Nat.add 6 (Nat.add (k3 a b c) (bN d))))) ++ (pops 0 37 11 12 a b c (some (.inl (.inl (.negSucc 0, [])))) ++ (po1 (k3 a b c) (some (.inl (.inl (.negSucc 0, [])))) (pnI (Nat.add 1 (bN a))) none (pI (pnI (Nat.add 11 (Nat.add (k3 a b c) (Nat.add (k3 d e f) (bN g)))))) 2 ++ (ptoc (Nat.add 5 (k3 a b c)) d (some (.inl (.inl (.negSucc 0, [])))) pN ++ (pops (Nat.add 5 (k3 a b c)) 32 33 34 d e f (some (.inl (.inl (.negSucc 0, [])))) ++ (po2 (k3 a b c) (k3 d e f) (some (.inl (.inl (.negSucc 0, [])))) none (pI (pnI (Nat.add 14 (Nat.add (Nat.add (k3 a b c) (k3 d e f)) (k2' g h))))) 2 ++ (pbar (Nat.add 10 (Nat.add (k3 a b c) (k3 d e f))) g h (some (.inl (.inl (.negSucc 0, [])))) ++ (pbs (Nat.add (k3 a b c) (k3 d e f)) (k2' g h) (some (.inl (.inl (.negSucc 0, [])))) none 2 ++ pnn (Nat.add (Nat.add (k3 a b c) (k3 d e f)) (k2' g h)) (some (.inl (.inl (.negSucc 0, [])))))))))))))
def pu11 (a b c d e f g h : Bool) : gx_D := ([], [78], (48, pGL, [], pA10 a b c d e f g h, 400), 4, 38, 350, [(360, 401), (361, 402), (362, 403)], [], (78, [], [pC 0], pA11 a b c d e f g h, 400))
def pfo (root inner lit lit2 j : Nat) (s : Bool) : List (Nat × Nat) := cond s [(root, pnI j), (inner, pnI (Nat.succ j)), (lit2, vI (Nat.succ j))] [(root, pnI j), (lit, vI j)]
def pfs12 (a b c d e f g h : Bool) : List (Nat × Nat) := [0, 1, 2, 3, 4, 5, 6, 7, 8, 9, 12, 30, 31, 32, 33, 34, 35, 36].map (fun i => (i, i)) ++ ([(10, 360), (11, 361), (13, 362), (14, vI (Nat.add 14 (Nat.add (Nat.add (k3 a b c) (k3 d e f)) (k2' g h)))), (15, pnI (Nat.add 13 (Nat.add (Nat.add (k3 a b c) (k3 d e f)) (k2' g h)))), (16, pnI (Nat.add 14 (Nat.add (Nat.add (k3 a b c) (k3 d e f)) (k2' g h)))), (17, pnI (Nat.add 9 (Nat.add (k3 a b c) (k3 d e f)))), (18, pnI (Nat.add 4 (k3 a b c))), (19, (pnI (Nat.add 1 (bN a)))), (20, (pnI (Nat.add 6 (Nat.add (k3 a b c) (bN d))))), (21, (pnI (Nat.add 11 (Nat.add (k3 a b c) (Nat.add (k3 d e f) (bN g))))))] ++
  (pfo 160 163 166 169 0 a ++ (pfo 161 164 167 170 (Nat.add 2 (bN a)) b ++ (pfo 162 165 168 171 (Nat.add 3 (Nat.add (bN a) (bN b))) c ++ (pfo 100 103 106 109 (Nat.add 5 (k3 a b c)) d ++ (pfo 101 104 107 110 (Nat.add 5 (Nat.add (k3 a b c) (Nat.add 2 (bN d)))) e ++ (pfo 102 105 108 111 (Nat.add 5 (Nat.add (k3 a b c) (Nat.add 3 (Nat.add (bN d) (bN e))))) f ++ (pfo 140 142 146 149 (Nat.add 10 (Nat.add (k3 a b c) (k3 d e f))) g ++ pfo 141 143 147 150 (Nat.add 12 (Nat.add (Nat.add (k3 a b c) (k3 d e f)) (bN g))) h))))))))
noncomputable def pu12 (a b c d e f g h : Bool) : gx_D := ([], [216], (213, gl_L7, [pC 0], pA11 a b c d e f g h, 400), 0, 0, 0, pfs12 a b c d e f g h, [], (216, gl_L7, [], bk_W (gp_IDLE a b c d e f g h gn_LB) bk_all, 300))
noncomputable def pv11 (a b c d e f g h : Bool) : Bool := gx_okDI [] sm_X12_goal 17 700 (pu11 a b c d e f g h) && pkT (pu11 a b c d e f g h) [] (pA10 a b c d e f g h) (pA11 a b c d e f g h)
noncomputable def pv12 (a b c d e f g h : Bool) : Bool := gx_okDI [] sm_L_law 18 726 (pu12 a b c d e f g h) && pchk (pu12 a b c d e f g h) [] (213, gl_L7, [pC 0], pA11 a b c d e f g h, 400) (216, gl_L7, [], bk_W (gp_IDLE a b c d e f g h gn_LB) bk_all, 300)
theorem pc0 : (gx_okDI [] sm_X12_goal 17 700 pu0 && pkT pu0 [] pG0 pA0) = true := by decide +kernel
theorem pc11_00000 : ∀ f g h : Bool, pv11 false false false false false f g h = true := by decide +kernel
theorem pc11_00001 : ∀ f g h : Bool, pv11 false false false false true f g h = true := by decide +kernel
theorem pc11_00010 : ∀ f g h : Bool, pv11 false false false true false f g h = true := by decide +kernel
theorem pc11_00011 : ∀ f g h : Bool, pv11 false false false true true f g h = true := by decide +kernel
theorem pc11_00100 : ∀ f g h : Bool, pv11 false false true false false f g h = true := by decide +kernel
theorem pc11_00101 : ∀ f g h : Bool, pv11 false false true false true f g h = true := by decide +kernel
theorem pc11_00110 : ∀ f g h : Bool, pv11 false false true true false f g h = true := by decide +kernel
theorem pc11_00111 : ∀ f g h : Bool, pv11 false false true true true f g h = true := by decide +kernel
theorem pc11_01000 : ∀ f g h : Bool, pv11 false true false false false f g h = true := by decide +kernel
theorem pc11_01001 : ∀ f g h : Bool, pv11 false true false false true f g h = true := by decide +kernel
theorem pc11_01010 : ∀ f g h : Bool, pv11 false true false true false f g h = true := by decide +kernel
theorem pc11_01011 : ∀ f g h : Bool, pv11 false true false true true f g h = true := by decide +kernel
theorem pc11_01100 : ∀ f g h : Bool, pv11 false true true false false f g h = true := by decide +kernel
theorem pc11_01101 : ∀ f g h : Bool, pv11 false true true false true f g h = true := by decide +kernel
theorem pc11_01110 : ∀ f g h : Bool, pv11 false true true true false f g h = true := by decide +kernel
theorem pc11_01111 : ∀ f g h : Bool, pv11 false true true true true f g h = true := by decide +kernel
theorem pc11_10000 : ∀ f g h : Bool, pv11 true false false false false f g h = true := by decide +kernel
theorem pc11_10001 : ∀ f g h : Bool, pv11 true false false false true f g h = true := by decide +kernel
theorem pc11_10010 : ∀ f g h : Bool, pv11 true false false true false f g h = true := by decide +kernel
theorem pc11_10011 : ∀ f g h : Bool, pv11 true false false true true f g h = true := by decide +kernel
theorem pc11_10100 : ∀ f g h : Bool, pv11 true false true false false f g h = true := by decide +kernel
theorem pc11_10101 : ∀ f g h : Bool, pv11 true false true false true f g h = true := by decide +kernel
theorem pc11_10110 : ∀ f g h : Bool, pv11 true false true true false f g h = true := by decide +kernel
theorem pc11_10111 : ∀ f g h : Bool, pv11 true false true true true f g h = true := by decide +kernel
theorem pc11_11000 : ∀ f g h : Bool, pv11 true true false false false f g h = true := by decide +kernel
theorem pc11_11001 : ∀ f g h : Bool, pv11 true true false false true f g h = true := by decide +kernel
theorem pc11_11010 : ∀ f g h : Bool, pv11 true true false true false f g h = true := by decide +kernel
theorem pc11_11011 : ∀ f g h : Bool, pv11 true true false true true f g h = true := by decide +kernel
theorem pc11_11100 : ∀ f g h : Bool, pv11 true true true false false f g h = true := by decide +kernel
theorem pc11_11101 : ∀ f g h : Bool, pv11 true true true false true f g h = true := by decide +kernel
theorem pc11_11110 : ∀ f g h : Bool, pv11 true true true true false f g h = true := by decide +kernel
theorem pc11_11111 : ∀ f g h : Bool, pv11 true true true true true f g h = true := by decide +kernel
theorem ph11 : ∀ a b c d e f g h : Bool, pv11 a b c d e f g h = true
  | false, false, false, false, false, f, g, h => pc11_00000 f g h
  | false, false, false, false, true, f, g, h => pc11_00001 f g h
  | false, false, false, true, false, f, g, h => pc11_00010 f g h
  | false, false, false, true, true, f, g, h => pc11_00011 f g h
  | false, false, true, false, false, f, g, h => pc11_00100 f g h
  | false, false, true, false, true, f, g, h => pc11_00101 f g h
  | false, false, true, true, false, f, g, h => pc11_00110 f g h
  | false, false, true, true, true, f, g, h => pc11_00111 f g h
  | false, true, false, false, false, f, g, h => pc11_01000 f g h
  | false, true, false, false, true, f, g, h => pc11_01001 f g h
  | false, true, false, true, false, f, g, h => pc11_01010 f g h
  | false, true, false, true, true, f, g, h => pc11_01011 f g h
  | false, true, true, false, false, f, g, h => pc11_01100 f g h
  | false, true, true, false, true, f, g, h => pc11_01101 f g h
  | false, true, true, true, false, f, g, h => pc11_01110 f g h
  | false, true, true, true, true, f, g, h => pc11_01111 f g h
  | true, false, false, false, false, f, g, h => pc11_10000 f g h
  | true, false, false, false, true, f, g, h => pc11_10001 f g h
  | true, false, false, true, false, f, g, h => pc11_10010 f g h
  | true, false, false, true, true, f, g, h => pc11_10011 f g h
  | true, false, true, false, false, f, g, h => pc11_10100 f g h
  | true, false, true, false, true, f, g, h => pc11_10101 f g h
  | true, false, true, true, false, f, g, h => pc11_10110 f g h
  | true, false, true, true, true, f, g, h => pc11_10111 f g h
  | true, true, false, false, false, f, g, h => pc11_11000 f g h
  | true, true, false, false, true, f, g, h => pc11_11001 f g h
  | true, true, false, true, false, f, g, h => pc11_11010 f g h
  | true, true, false, true, true, f, g, h => pc11_11011 f g h
  | true, true, true, false, false, f, g, h => pc11_11100 f g h
  | true, true, true, false, true, f, g, h => pc11_11101 f g h
  | true, true, true, true, false, f, g, h => pc11_11110 f g h
  | true, true, true, true, true, f, g, h => pc11_11111 f g h
