/-! the goal's parse: states and units as functions of the layout -/
def pC (n : Nat) : sx_V := .inl (.inl (.ofNat n, []))
def pI (i : Nat) : sx_V := .inr (.inr (some (.inl i)))
def pN : sx_V := .inr (.inr none)
def pU (u : Nat) : sx_V := .inl (.inl (.ofNat 0, [(u, .ofNat 1)]))
def pL (u : Nat) (s : Bool) : sx_V := .inr (.inl (.ofNat 0, [(u, cond s (.negSucc 0) (.ofNat 1))]))
def pnI (j : Nat) : Nat := Nat.add 300 (Nat.mul 2 j)
def vI (j : Nat) : Nat := Nat.add 301 (Nat.mul 2 j)
def bN (s : Bool) : Nat := cond s 1 0
def kc (n : Nat) : sx_I := (.ofNat n, [])
def dg (u : Nat) (s : Bool) : sx_I := (.ofNat 48, [(u, cond s (.negSucc 0) (.ofNat 1))])
def prd (size : sx_V) (at_ : Option sx_V) (kind : Nat) (id_ : Option sx_V) (top open_ : Nat) (left : sx_V) (st : Nat) : sx_C := .inl (9, [some (.inr (.inr (some (.inl 3)))), some (.inr (.inr (some (.inl 41)))), some (size), at_, some (pC kind), id_, none, some (.inl (.inl (.ofNat 0, []))), none, none, some (.inl (.inl (.ofNat 0, []))), none, some (.inr (.inr (some (.inl 45)))), some (.inr (.inr (some (.inl 47)))), some (pC st), some (.inr (.inr (some (.inl 42)))), some (.inr (.inr (some (.inl 43)))), some (.inr (.inr (some (.inl 44)))), some (pC top), some (pC open_), some (left), some (.inr (.inr none)), none])
def pnd (kind : Nat) (op : sx_V) (id_ : Option sx_V) (kid : sx_V) (tail : Option sx_V) (next : sx_V) (kids : Nat) (lit : sx_V) : sx_C := .inl (6, [some (pC kind), some (op), none, none, id_, some (kid), tail, some (next), some (pC kids), none, some (lit), none, none, none])
def pvl (num : sx_V) : sx_C := .inl (13, [some (.inl (.inl (.ofNat 1, []))), some (num), some (.inr (.inr none)), none, none, none, none, none, some (.inr (.inr none)), none, none])
def pls (n : Nat) (row : sx_V) : sx_C := .inl (2, [some (pC n), some (row), some (pC n)])
def ppc (first : Option sx_V) : sx_C := .inl (7, [none, some (.inl (.inl (.ofNat 3, []))), some (.inl (.inl (.ofNat 0, []))), none, some (.inr (.inr (some (.inl 48)))), none, none, none, none, none, first, none, none, none])
/-- an operand at index j: its nodes, its value -/
def popn (j u : Nat) (s : Bool) (id_ : Option sx_V) (next : sx_V) : List (Nat × sx_C) := cond s [(pnI j, pnd 5 (pC 36) id_ (pI (pnI (Nat.succ j))) none next 1 pN), (pnI (Nat.succ j), pnd 1 (pC 0) id_ pN none pN 0 (pI (vI (Nat.succ j)))), (vI (Nat.succ j), pvl (pL u s))] [(pnI j, pnd 1 (pC 0) id_ pN none next 0 (pI (vI j))), (vI j, pvl (pL u s))]
/-- (x to y by z) at index j: the operands, the node itself -/
def pops (j u1 u2 u3 : Nat) (a b c : Bool) (id_ : Option sx_V) : List (Nat × sx_C) :=
  popn j u1 a id_ (pI (pnI (Nat.add j (Nat.add 2 (bN a))))) ++ (popn (Nat.add j (Nat.add 2 (bN a))) u2 b id_ (pI (pnI (Nat.add j (Nat.add 3 (Nat.add (bN a) (bN b)))))) ++ popn (Nat.add j (Nat.add 3 (Nat.add (bN a) (bN b)))) u3 c id_ pN)
def ptoc (j : Nat) (a : Bool) (id_ : Option sx_V) (next : sx_V) : List (Nat × sx_C) := [(pnI (Nat.add j (Nat.add 1 (bN a))), pnd 5 (pC 60) id_ (pI (pnI j)) none next 3 pN)]
def pcap (n : Nat) : Nat := cond (Nat.ble n 10) 10 (cond (Nat.ble n 15) 15 (cond (Nat.ble n 22) 22 33))
def prow (n : Nat) : List (Nat × sx_V) := (List.range n).map (fun i => (i, pI (pnI i)))
def pwin : Nat → List sx_I → List (Nat × sx_V)
  | _, [] => []
  | i, e :: t => (i, .inl (.inl e)) :: pwin (Nat.succ i) t
def pth : Nat → List sx_I → List (Nat × sx_I)
  | _, [] => []
  | i, e :: t => (Nat.add 220 i, e) :: pth (Nat.succ i) t
def ptx : List (Nat × sx_V) := [(0, pU 220), (1, pU 221), (2, pU 222), (3, pU 223), (4, pU 224), (5, pU 225), (6, pU 226), (7, pU 227), (8, pU 228), (9, pU 229), (10, pU 230), (11, pU 231), (12, pU 232), (13, pU 233), (14, pU 234), (15, pU 235), (16, pU 236), (17, pU 237), (18, pU 238), (19, pU 239), (20, pU 240), (21, pU 241), (22, pU 242), (23, pU 243), (24, pU 244), (25, pU 245), (26, pU 246), (27, pU 247), (28, pU 248), (29, pU 249), (30, pU 250), (31, pU 251), (32, pU 252), (33, pU 253), (34, pU 254), (35, pU 255), (36, pU 256), (37, pU 257), (38, pU 258), (39, pU 259), (40, pU 260), (41, pU 261), (42, pU 262), (43, pU 263), (44, pU 264), (45, pU 265), (46, pU 266), (47, pU 267), (48, pU 268), (49, pU 269), (50, pU 270), (51, pU 271), (52, pU 272), (53, pU 273), (54, pU 274), (55, pU 275), (56, pU 276), (57, pU 277), (58, pU 278), (59, pU 279)]
/-- the tape of which this is known -/
def ptp (i : Nat) (w : List sx_I) : List (Nat × sx_V) := pwin i w ++ ptx.filter (fun q => Nat.blt q.1 i || Nat.ble (Nat.add i w.length) q.1)
def pkit : sx_C := .inl (5, [some (.inr (.inr (some (.inl 7)))), none, none, some (.inr (.inr (some (.inl 6)))), none, some (.inr (.inr (some (.inl 34)))), some (.inr (.inr (some (.inl 33)))), none, none, some (.inr (.inr (some (.inl 32)))), none, some (.inr (.inr (some (.inl 4)))), some (.inr (.inr (some (.inl 5)))), none, none, none, none, none, some (.inl (.inl (.ofNat 0, [(20, .ofNat 1)]))), none, none])
def pxw : sx_C := .inr (0, 16, true, [(0, .inl (.inl (.ofNat 0, [(51, .ofNat 1)]))), (1, .inl (.inl (.ofNat 0, []))), (2, .inl (.inl (.ofNat 0, []))), (3, .inl (.inl (.ofNat 0, []))), (4, .inl (.inl (.ofNat 0, []))), (5, .inl (.inl (.ofNat 0, []))), (6, .inl (.inl (.ofNat 0, []))), (7, .inl (.inl (.ofNat 0, []))), (8, .inl (.inl (.ofNat 0, []))), (9, .inl (.inl (.ofNat 0, []))), (10, .inl (.inl (.ofNat 0, []))), (11, .inl (.inl (.ofNat 0, []))), (12, .inl (.inl (.ofNat 0, []))), (13, .inl (.inl (.ofNat 0, []))), (14, .inl (.inl (.ofNat 0, []))), (15, .inl (.inl (.ofNat 0, [])))])
def ppr : sx_C := .inl (8, [some (.inr (.inr (some (.inl 46)))), none, none, none, none, none, none, none, none, none, none])
/-- what the reading looks at, but for the list and its row -/
def psh0 (rd : sx_C) (types nodes : List (Nat × sx_V)) (tape : List (Nat × sx_V)) (first : Option sx_V) : List (Nat × sx_C) := [(40, rd), (41, .inr (1, 8000, false, tape)), (42, .inr (0, 700, false, types)), (43, .inr (9, 700, false, nodes)), (44, .inr (9, 700, false, nodes.map (fun q => (q.1, pN)))), (45, ppr), (47, ppc first), (3, pkit)]
def pshz (rd : sx_C) (tape : List (Nat × sx_V)) : List (Nat × sx_C) := psh0 rd [] [] tape none ++ [(46, pls 0 (.inr (.inr (some (.inr 0)))))]
def psh (n : Nat) (rd : sx_C) (types nodes : List (Nat × sx_V)) (tape : List (Nat × sx_V)) (first : Option sx_V) : List (Nat × sx_C) := psh0 rd types nodes tape first ++ [(46, pls n (pI 350)), (350, .inr (11, pcap n, true, prow n))]
def pLR (g : Nat) : List (Nat × sx_V) := [(0, pI 40), (1, pC g)]
/-- names of what is new: runs' ids by what is made (0 a place in waiting, 1 a number, 2 a node) -/
def pfs : Nat → Nat → List Nat → List (Nat × Nat)
  | _, _, [] => []
  | x, n, 0 :: t => pfs (Nat.succ x) n t
  | x, n, 1 :: t => (vI n, x) :: pfs (Nat.succ x) n t
  | x, n, _ :: t => (pnI n, x) :: (bif Nat.beq n 0 || (Nat.beq n 10 || (Nat.beq n 15 || Nat.beq n 22)) then (350, Nat.succ x) :: pfs (Nat.add x 2) (Nat.succ n) t else pfs (Nat.succ x) (Nat.succ n) t)
def pgrow (a b : Nat) : Bool := (Nat.ble a 0 && Nat.blt 0 b) || ((Nat.ble a 10 && Nat.blt 10 b) || ((Nat.ble a 15 && Nat.blt 15 b) || (Nat.ble a 22 && Nat.blt 22 b)))
/-- the row's own name, if it is not made anew -/
def pfr (a b : Nat) : List (Nat × Nat) := bif pgrow a b then [] else [(350, 350)]
def pev (s : Bool) : List Nat := cond s [2, 1, 2] [1, 2]
def wop (u : Nat) (s : Bool) : List sx_I := cond s [kc 45, dg u s] [dg u s]
def wspan (u1 u2 u3 : Nat) (a b c : Bool) : List sx_I := [kc 40] ++ (wop u1 a ++ ([kc 32, kc 116, kc 111, kc 32] ++ (wop u2 b ++ ([kc 32, kc 98, kc 121, kc 32] ++ (wop u3 c ++ [kc 41])))))
def wact (q : Nat) : List sx_I := match q with
  | 0 => [kc 43]
  | 1 => [kc 45]
  | 2 => [kc 42]
  | 3 => [kc 60]
  | 4 => [kc 62, kc 61]
  | _ => [kc 126, kc 61]
def wwide (q : Nat) : Bool := Nat.ble 4 q
def pcode (q : Nat) : Nat := match q with
  | 0 => 35
  | 1 => 36
  | 2 => 39
  | 3 => 19
  | 4 => 22
  | _ => 24
def prank (q : Nat) : Nat := match q with
  | 0 => 8
  | 1 => 8
  | 2 => 9
  | 3 => 6
  | 4 => 6
  | _ => 6
def pB6 (u : Nat) (s : Bool) : Nat × Int × Int := (u, cond s (.negSucc 5) (.ofNat 0), cond s (.negSucc 0) (.ofNat 6))
def pB3 (u : Nat) (s : Bool) : Nat × Int × Int := (u, cond s (.negSucc 2) (.ofNat 1), cond s (.negSucc 0) (.ofNat 3))
def pB2 (u : Nat) (s : Bool) : Nat × Int × Int := (u, cond s (.negSucc 1) (.ofNat 1), cond s (.negSucc 0) (.ofNat 2))
def pBs (f : Bool) : Nat × Int × Int := (50, cond f (.ofNat 60) (.ofNat 40), .ofNat 60)
def pBo (u : Nat) : Nat × Int × Int := (u, .ofNat 19, .ofNat 39)
def pBr : Nat × Int × Int := (46, .ofNat 6, .ofNat 9)
def k3 (a b c : Bool) : Nat := Nat.add (bN a) (Nat.add (bN b) (bN c))
def k2' (a b : Bool) : Nat := Nat.add (bN a) (bN b)
def xwl : List (Nat × sx_C) := [(33, pxw)]
def pty2 : List (Nat × sx_V) := [(0, pC 20), (1, pC 20)]
def pty3 : List (Nat × sx_V) := [(0, pC 20), (1, pC 20), (2, pU 46)]
def pnd2 : List (Nat × sx_V) := [(0, pI 60), (1, pI 61)]
def pnd3 (i : Nat) : List (Nat × sx_V) := [(0, pI 60), (1, pI 61), (2, pI i)]
def pre_ (n : Nat) : List Nat := List.replicate n 60
/-- the states in which the units stand -/
def s0 (tp : List (Nat × sx_V)) : List (Nat × sx_C) := pshz (prd (pU 50) (some (pC 0)) 0 none 0 0 pN 21) tp
def s1 (k : Nat) (sa : Bool) (tp : List (Nat × sx_V)) : List (Nat × sx_C) := psh (Nat.add 4 k) (prd (pU 50) (some (pC (Nat.add 15 k))) 6 (some (pC 1)) 2 2 (pI (pnI (Nat.add 1 (bN sa)))) 21) pty2 pnd2 tp none
def s2 (k : Nat) (u : Bool) (tp : List (Nat × sx_V)) : List (Nat × sx_C) := psh (Nat.add 5 k) (prd (pU 50) (some (pC (Nat.add 16 (Nat.add k (bN u))))) 6 (some (pU 28)) 3 2 pN 21) pty3 (pnd3 (pnI (Nat.add 4 k))) tp none
def s3 (k kk : Nat) (u d : Bool) (tp : List (Nat × sx_V)) : List (Nat × sx_C) := psh (Nat.add 9 (Nat.add k kk)) (prd (pU 50) (some (pC (Nat.add 29 (Nat.add k (Nat.add kk (bN u)))))) 6 (some (pC 1)) 3 2 (pI (pnI (Nat.add 6 (Nat.add k (bN d))))) 21) pty3 (pnd3 (pnI (Nat.add 4 k))) tp none
def s4 (k kk : Nat) (u : Bool) (tp : List (Nat × sx_V)) : List (Nat × sx_C) := psh (Nat.add 9 (Nat.add k kk)) (prd (pU 50) (some (pC (Nat.add 30 (Nat.add k (Nat.add kk (bN u)))))) 6 (some (pC 1)) 1 1 (pI (pnI (Nat.add 4 k))) 21) [(0, pC 20)] [(0, pI 60)] tp none
/-- kk minus signs, o wide signs -/
def s5 (kk o : Nat) (tp : List (Nat × sx_V)) : List (Nat × sx_C) := psh (Nat.add 10 kk) (prd (pU 50) (some (pC (Nat.add 31 (Nat.add kk o)))) 6 (some (pU 29)) 2 1 pN 21) [(0, pC 20), (1, pU 46)] [(0, pI 60), (1, pI (pnI (Nat.add 9 kk)))] tp none
def s6 (sz : sx_V) (kk o gh : Nat) (g : Bool) (tp : List (Nat × sx_V)) : List (Nat × sx_C) := psh (Nat.add 13 (Nat.add kk gh)) (prd sz (some (pC (Nat.add 36 (Nat.add kk (Nat.add o gh))))) 6 (some (pC 1)) 2 1 (pI (pnI (Nat.add 11 (Nat.add kk (bN g))))) 21) [(0, pC 20), (1, pU 46)] [(0, pI 60), (1, pI (pnI (Nat.add 9 kk)))] tp none
def s7 (sz : sx_V) (kk o gh : Nat) (tp : List (Nat × sx_V)) : List (Nat × sx_C) := psh (Nat.add 13 (Nat.add kk gh)) (prd sz (some (pC (Nat.add 37 (Nat.add kk (Nat.add o gh))))) 6 (some (pC 1)) 0 0 (pI (pnI (Nat.add 9 kk))) 21) [] [] tp none
/-- k minus signs in all -/
def s8 (sz : sx_V) (k o : Nat) (tp : List (Nat × sx_V)) : List (Nat × sx_C) := psh (Nat.add 14 k) (prd sz (some (pC (Nat.add 38 (Nat.add k o)))) 6 (some (pC 44)) 1 0 pN 21) [(0, pC 11)] [(0, pI (pnI (Nat.add 13 k)))] tp none
def s9 (sz : sx_V) (k : Nat) (tp : List (Nat × sx_V)) : List (Nat × sx_C) := psh (Nat.add 15 k) (prd sz none 0 (some (pC 44)) 1 0 (pI (pnI (Nat.add 14 k))) 21) [(0, pC 11)] [(0, pI (pnI (Nat.add 13 k)))] tp none
def s10 (k : Nat) (tp : List (Nat × sx_V)) : List (Nat × sx_C) := psh (Nat.add 15 k) (prd (pU 50) none 0 (some (pC 44)) 0 0 (pI (pnI (Nat.add 13 k))) 25) [] [] tp (some (pI (pnI (Nat.add 13 k))))
/-- acts: with one side, with both -/
def po1 (k : Nat) (id_ : Option sx_V) (t1 : Nat) (tail : Option sx_V) (next : sx_V) (kids : Nat) : List (Nat × sx_C) := [(pnI (Nat.add 4 k), pnd 5 (pU 28) id_ (pI t1) tail next kids pN)]
def po2 (k kk : Nat) (id_ : Option sx_V) (tail : Option sx_V) (next : sx_V) (kids : Nat) : List (Nat × sx_C) := [(pnI (Nat.add 9 (Nat.add k kk)), pnd 5 (pU 29) id_ (pI (pnI (Nat.add 4 k))) tail next kids pN)]
def pbs (n gh : Nat) (id_ : Option sx_V) (tail : Option sx_V) (kids : Nat) : List (Nat × sx_C) := [(pnI (Nat.add 13 (Nat.add n gh)), pnd 5 (pC 44) id_ (pI (pnI (Nat.add 9 n))) tail pN kids pN)]
def pnn (k : Nat) (id_ : Option sx_V) : List (Nat × sx_C) := [(pnI (Nat.add 14 k), pnd 1 (pC 0) id_ pN none pN 0 (pI (vI (Nat.add 14 k)))), (vI (Nat.add 14 k), pvl (pL 8 false))]
def pbar (n : Nat) (g h : Bool) (id_ : Option sx_V) : List (Nat × sx_C) := popn n 35 g id_ (pI (pnI (Nat.add 2 (Nat.add n (bN g))))) ++ popn (Nat.add 2 (Nat.add n (bN g))) 36 h id_ pN ++ [(pnI (Nat.add 1 (Nat.add n (bN g))), pnd 5 (pC 18) id_ (pI (pnI n)) none pN 2 pN)]
def pFs (f : Bool) : Nat × Int × Int := pBs f
def szc (f : Bool) : sx_V := cond f (pC 60) (pC 40)
def nz (n : Nat) : Bool := Nat.blt 0 n
def pu1 (a b c : Bool) : gx_D := ([pB6 37 a, pB6 11 b, pB3 12 c, pBs false], pre_ (Nat.add 9 (k3 a b c)), (0, [(0, pI 40)], [], s0 (ptp 0 ([kc 40, kc 40] ++ wspan 37 11 12 a b c)) ++ xwl, 400), 14, 183, 60, [(60, 400), (61, 401)] ++ pfs 403 0 (pev a ++ (2 :: (pev b ++ pev c))), [(51, (.ofNat 0, [(12, cond c (.negSucc 0) (.ofNat 1))]))], (60, pLR (Nat.add 8 (k3 a b c)), [pI 40], s1 (k3 a b c) a (ptp 0 ([kc 40, kc 40] ++ wspan 37 11 12 a b c)) ++ xwl ++ (ptoc 0 a none pN ++ pops 0 37 11 12 a b c none), 400))
def pu2 (k : Nat) (sa : Bool) (q : Nat) : gx_D := ([pBs false], [60], (60, pLR (Nat.add 8 k), [pI 40], s1 k sa (ptp (Nat.add 15 k) (wact q ++ [kc 40])) ++ xwl, 400), 1, 14, pnI (Nat.add 4 k), pfs 400 (Nat.add 4 k) [2] ++ pfr (Nat.add 4 k) (Nat.add 5 k), [(28, (.ofNat (pcode q), [])), (46, (.ofNat (prank q), []))], (60, pLR (Nat.add 9 k), [pI 40], s2 k (wwide q) (ptp (Nat.add 15 k) (wact q ++ [kc 40])) ++ xwl ++ po1 k none (pnI (Nat.add 1 (bN sa))) (some (pI (pnI (Nat.add 1 (bN sa))))) pN 1, 400))
def pu3 (k : Nat) (u d e f : Bool) : gx_D := ([pB6 32 d, pB6 33 e, pB2 34 f, pBs false, pBo 28, pBr], pre_ (Nat.add 7 (k3 d e f)), (60, pLR (Nat.add 9 k), [pI 40], s2 k u (ptp (Nat.add 16 (Nat.add k (bN u))) (wspan 32 33 34 d e f)) ++ xwl, 400), 12, 160, pnI (Nat.add 5 k), pfs 401 (Nat.add 5 k) (pev d ++ (2 :: (pev e ++ pev f))) ++ pfr (Nat.add 5 k) (Nat.add 9 (Nat.add k (k3 d e f))), [(51, (.ofNat 0, [(34, cond f (.negSucc 0) (.ofNat 1))]))], (60, pLR (Nat.add 16 (Nat.add k (k3 d e f))), [pI 40], s3 k (k3 d e f) u d (ptp (Nat.add 16 (Nat.add k (bN u))) (wspan 32 33 34 d e f)) ++ xwl ++ (ptoc (Nat.add 5 k) d none pN ++ pops (Nat.add 5 k) 32 33 34 d e f none), 400))
def pu4 (k : Nat) (sa u : Bool) (kk : Nat) (d : Bool) : gx_D := ([pBs (nz (Nat.add k (Nat.add kk (bN u)))), pBo 28, pBr], [60], (60, pLR (Nat.add 16 (Nat.add k kk)), [pI 40], s3 k kk u d (ptp (Nat.add 29 (Nat.add k (Nat.add kk (bN u)))) [kc 41]) ++ xwl ++ (po1 k none (pnI (Nat.add 1 (bN sa))) (some (pI (pnI (Nat.add 1 (bN sa))))) pN 1 ++ ptoc 0 sa none pN), 400), 0, 0, pnI (Nat.add 9 (Nat.add k kk)), [(350, 350)], [], (60, pLR (Nat.add 17 (Nat.add k kk)), [pI 40], s4 k kk u (ptp (Nat.add 29 (Nat.add k (Nat.add kk (bN u)))) [kc 41]) ++ xwl ++ (po1 k none (pnI (Nat.add 1 (bN sa))) none pN 2 ++ ptoc 0 sa none (pI (pnI (Nat.add 6 (Nat.add k (bN d)))))), 400))
def pu5 (k kk : Nat) (u : Bool) (q : Nat) : gx_D := ([pBs (nz (Nat.add k (Nat.add kk (Nat.add (bN u) (bN (wwide q))))))], [60], (60, pLR (Nat.add 17 (Nat.add k kk)), [pI 40], s4 k kk u (ptp (Nat.add 30 (Nat.add k (Nat.add kk (bN u)))) (wact q ++ [kc 40])) ++ xwl, 400), 2, 36, pnI (Nat.add 9 (Nat.add k kk)), pfs 400 (Nat.add 9 (Nat.add k kk)) [2] ++ pfr (Nat.add 9 (Nat.add k kk)) (Nat.add 10 (Nat.add k kk)), [(29, (.ofNat (pcode q), [])), (46, (.ofNat (prank q), []))], (60, pLR (Nat.add 18 (Nat.add k kk)), [pI 40], s5 (Nat.add k kk) (Nat.add (bN u) (bN (wwide q))) (ptp (Nat.add 30 (Nat.add k (Nat.add kk (bN u)))) (wact q ++ [kc 40])) ++ xwl ++ po2 k kk none (some (pI (pnI (Nat.add 4 k)))) pN 1, 400))
def pu6 (kk o : Nat) (g h : Bool) : gx_D := ([pB6 35 g, pB6 36 h, pBs (nz (Nat.add kk (Nat.add o (k2' g h)))), pBo 29, pBr], pre_ (Nat.add 5 (k2' g h)), (60, pLR (Nat.add 18 kk), [pI 40], s5 kk o (ptp (Nat.add 31 (Nat.add kk o)) ([kc 40] ++ (wop 35 g ++ ([kc 124] ++ (wop 36 h ++ [kc 41]))))) ++ xwl, 400), 9, 128, pnI (Nat.add 10 kk), pfs 401 (Nat.add 10 kk) (pev g ++ (2 :: pev h)) ++ pfr (Nat.add 10 kk) (Nat.add 13 (Nat.add kk (k2' g h))), [(51, (.ofNat 0, [(36, cond h (.negSucc 0) (.ofNat 1))]))], (60, pLR (Nat.add 23 (Nat.add kk (k2' g h))), [pI 40], s6 (pU 50) kk o (k2' g h) g (ptp (Nat.add 31 (Nat.add kk o)) ([kc 40] ++ (wop 35 g ++ ([kc 124] ++ (wop 36 h ++ [kc 41]))))) ++ xwl ++ pbar (Nat.add 10 kk) g h none, 400))
def pu7 (k : Nat) (sa : Bool) (kk o : Nat) (g h f : Bool) : gx_D := ([pBo 28, pBo 29, pBr], [60], (60, pLR (Nat.add 23 (Nat.add (Nat.add k kk) (k2' g h))), [pI 40], s6 (szc f) (Nat.add k kk) o (k2' g h) g (ptp (Nat.add 36 (Nat.add k (Nat.add kk (Nat.add o (k2' g h))))) [kc 41]) ++ xwl ++ (po2 k kk none (some (pI (pnI (Nat.add 4 k)))) pN 1 ++ po1 k none (pnI (Nat.add 1 (bN sa))) none pN 2), 400), 0, 0, pnI (Nat.add 13 (Nat.add k (Nat.add kk (k2' g h)))), [(350, 350)], [], (60, pLR (Nat.add 24 (Nat.add (Nat.add k kk) (k2' g h))), [pI 40], s7 (szc f) (Nat.add k kk) o (k2' g h) (ptp (Nat.add 36 (Nat.add k (Nat.add kk (Nat.add o (k2' g h))))) [kc 41]) ++ xwl ++ (po2 k kk none none pN 2 ++ po1 k none (pnI (Nat.add 1 (bN sa))) none (pI (pnI (Nat.add 11 (Nat.add k (Nat.add kk (bN g)))))) 2), 400))
def pu8 (n gh o : Nat) (f : Bool) : gx_D := ([], [60], (60, pLR (Nat.add 24 (Nat.add n gh)), [pI 40], s7 (szc f) n o gh (ptp (Nat.add 37 (Nat.add n (Nat.add o gh))) [kc 92, kc 32]) ++ xwl, 400), 2, 36, pnI (Nat.add 13 (Nat.add n gh)), pfs 400 (Nat.add 13 (Nat.add n gh)) [2] ++ pfr (Nat.add 13 (Nat.add n gh)) (Nat.add 14 (Nat.add n gh)), [], (60, pLR (Nat.add 25 (Nat.add n gh)), [pI 40], s8 (szc f) (Nat.add n gh) o (ptp (Nat.add 37 (Nat.add n (Nat.add o gh))) [kc 92, kc 32]) ++ xwl ++ pbs n gh none (some (pI (pnI (Nat.add 9 n)))) 1, 400))
def wmost (k o : Nat) (t : Bool) : List sx_I := [kc 32] ++ (cond t [dg 44 false, dg 45 false] [dg 45 false] ++ List.replicate (Nat.sub (cond (nz (Nat.add k (Nat.add o (bN t)))) 60 40) (Nat.add 40 (Nat.add k (Nat.add o (bN t))))) (kc 32))
def emost (t : Bool) : sx_I := cond t (.ofNat 0, [(44, .ofNat 10), (45, .ofNat 1)]) (.ofNat 0, [(45, .ofNat 1)])
def pu9 (k o : Nat) (t : Bool) : gx_D := (cond t [(44, .ofNat 1, .ofNat 4), (45, .ofNat 0, .ofNat 9)] [(45, .ofNat 2, .ofNat 9)], [60, 4], (60, pLR (Nat.add 25 k), [pI 40], s8 (szc (nz (Nat.add k (Nat.add o (bN t))))) k o (ptp (Nat.add 38 (Nat.add k o)) (wmost k o t)) ++ xwl, 400), 3, 58, pnI (Nat.add 14 k), pfs 400 (Nat.add 14 k) [1, 2] ++ pfr (Nat.add 14 k) (Nat.add 15 k), [(8, emost t), (51, emost t)], (4, pLR (Nat.add 27 k), [], s9 (szc (nz (Nat.add k (Nat.add o (bN t))))) k (ptp (Nat.add 38 (Nat.add k o)) (wmost k o t)) ++ xwl ++ pnn k none, 400))
def pu10 (k kk gh : Nat) : gx_D := ([pBo 29], [63], (4, pLR (Nat.add 27 (Nat.add (Nat.add k kk) gh)), [], s9 (pU 50) (Nat.add (Nat.add k kk) gh) ptx ++ xwl ++ (pbs (Nat.add k kk) gh none (some (pI (pnI (Nat.add 9 (Nat.add k kk))))) 1 ++ po2 k kk none none pN 2), 400), 0, 0, pnI (Nat.add 15 (Nat.add (Nat.add k kk) gh)), [(350, 350)], [], (63, [], [], s10 (Nat.add (Nat.add k kk) gh) ptx ++ xwl ++ (pbs (Nat.add k kk) gh none none 2 ++ po2 k kk none none (pI (pnI (Nat.add 14 (Nat.add (Nat.add k kk) gh)))) 2), 400))
