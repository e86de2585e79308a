/-! the text that this argument makes; rows 121 to 210 -/
def n_th (n a : Nat) (s : Bool) : Nat × sx_I := (n, ((0 : Int), [(a, bif s then (-1 : Int) else 1)]))
def n_bd (a : Nat) (s : Bool) (l h : Int) : Nat × Int × Int := (a, (bif s then 1 else l), h)
def n_V1 (s0 s1 s6 : Bool) : f_V := ([n_th 20 0 s0, n_th 21 1 s1, n_th 26 6 s6], [n_bd 0 s0 0 6, n_bd 1 s1 0 6, n_bd 6 s6 1 3])
def n_V2 (x : Int) : f_V := ([(28, (x, []))], [])
def n_V3 (s2 s3 s7 : Bool) : f_V := ([n_th 22 2 s2, n_th 23 3 s3, n_th 27 7 s7], [n_bd 2 s2 0 6, n_bd 3 s3 0 6, n_bd 7 s7 1 2])
def n_V5 (x : Int) : f_V := ([(29, (x, []))], [])
def n_V7 (s : Bool) : f_V := ([n_th 24 4 s], [n_bd 4 s 0 6])
def n_V9 (s : Bool) : f_V := ([n_th 25 5 s], [n_bd 5 s 0 6])
def n_V11 (s : Bool) : f_V := bif s then ([(30, ((0 : Int), [(9, (1 : Int))]))], [(9, (2 : Int), (9 : Int))]) else ([(30, ((0 : Int), [(8, (10 : Int)), (9, (1 : Int))]))], [(8, (1 : Int), (4 : Int)), (9, (0 : Int), (9 : Int))])
theorem n_V1m : ∀ a b c : Bool, n_V1 a b c ∈ f_g1.2.2.2.2 := by decide +kernel
theorem n_V3m : ∀ a b c : Bool, n_V3 a b c ∈ f_g3.2.2.2.2 := by decide +kernel
theorem n_V7m : ∀ a : Bool, n_V7 a ∈ f_g7.2.2.2.2 := by decide +kernel
theorem n_V9m : ∀ a : Bool, n_V9 a ∈ f_g9.2.2.2.2 := by decide +kernel
theorem n_V11m : ∀ a : Bool, n_V11 a ∈ f_g11.2.2.2.2 := by decide +kernel
theorem n_V2m {x : Int} (h : 0 ≤ x ∧ x ≤ 5) : n_V2 x ∈ f_g2.2.2.2.2 := by
  have : x = 0 ∨ x = 1 ∨ x = 2 ∨ x = 3 ∨ x = 4 ∨ x = 5 := by omega
  rcases this with rfl | rfl | rfl | rfl | rfl | rfl <;> decide +kernel
theorem n_V5m {x : Int} (h : 0 ≤ x ∧ x ≤ 5) : n_V5 x ∈ f_g5.2.2.2.2 := by
  have : x = 0 ∨ x = 1 ∨ x = 2 ∨ x = 3 ∨ x = 4 ∨ x = 5 := by omega
  rcases this with rfl | rfl | rfl | rfl | rfl | rfl <;> decide +kernel
def n_Vs (ns : Nat) (f : Nat → Int32) : List f_V := [([], []), n_V1 (decide (n_m ns f 0 < 0)) (decide (n_m ns f 1 < 0)) (decide (n_by ns f < 0)), n_V2 (n_lo ns f 12 6), n_V3 (decide (n_m ns f 2 < 0)) (decide (n_m ns f 3 < 0)) (decide (n_ot ns f < 0)), ([], []), n_V5 (n_lo ns f 13 6), ([], []), n_V7 (decide (n_m ns f 4 < 0)), ([], []), n_V9 (decide (n_m ns f 5 < 0)), ([], []), n_V11 (decide (n_mo ns f < 10)), ([], [])]
def n_Gs : List f_G := [f_g0, f_g1, f_g2, f_g3, f_g4, f_g5, f_g6, f_g7, f_g8, f_g9, f_g10, f_g11, f_g12]
theorem n_seq (ns : Nat) (f : Nat → Int32) : f_seq 121 [0] n_Gs (n_Vs ns f) 210 [40, 60] :=
  ⟨rfl, rfl, f_g0_ok, List.mem_cons_self, rfl, rfl, f_g1_ok, n_V1m _ _ _, rfl, rfl, f_g2_ok, n_V2m n_lo6, rfl, rfl, f_g3_ok, n_V3m _ _ _, rfl, rfl, f_g4_ok, List.mem_cons_self, rfl, rfl, f_g5_ok, n_V5m n_lo6, rfl, rfl, f_g6_ok, List.mem_cons_self, rfl, rfl, f_g7_ok, n_V7m _, rfl, rfl, f_g8_ok, List.mem_cons_self, rfl, rfl, f_g9_ok, n_V9m _, rfl, rfl, f_g10_ok, List.mem_cons_self, rfl, rfl, f_g11_ok, n_V11m _, rfl, rfl, f_g12_ok, List.mem_cons_self, rfl, rfl⟩
noncomputable def n_txt (ns : Nat) (f : Nat → Int32) : List sx_I := f_txt n_Gs (n_Vs ns f) 0
