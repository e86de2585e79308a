/-! the units between the states of the parse -/
theorem q6 {q : Nat} (h : q < 6) : q ∈ ([0, 1, 2, 3, 4, 5] : List Nat) := by
  have h9 : q = 0 ∨ q = 1 ∨ q = 2 ∨ q = 3 ∨ q = 4 ∨ q = 5 := by omega
  rcases h9 with rfl | rfl | rfl | rfl | rfl | rfl <;> decide
theorem q3 {q : Nat} (h : q < 3) : q ∈ ([0, 1, 2] : List Nat) := by
  have h9 : q = 0 ∨ q = 1 ∨ q = 2 := by omega
  rcases h9 with rfl | rfl | rfl <;> decide
theorem q4 {q : Nat} (h : q < 4) : q ∈ ([0, 1, 2, 3] : List Nat) := by
  have h9 : q = 0 ∨ q = 1 ∨ q = 2 ∨ q = 3 := by omega
  rcases h9 with rfl | rfl | rfl | rfl <;> decide
theorem ph1 : ∀ a b c : Bool, pv1 a b c = true
  | false, false, c => pc1_00 c
  | false, true, c => pc1_01 c
  | true, false, c => pc1_10 c
  | true, true, c => pc1_11 c
theorem ph2 {q : Nat} (hq : q < 6) : ∀ a b c : Bool, pv2 (k3 a b c) a q = true
  | false, false, false => List.all_eq_true.mp pc2_00 q (q6 hq)
  | false, false, true => List.all_eq_true.mp pc2_10 q (q6 hq)
  | false, true, false => List.all_eq_true.mp pc2_10 q (q6 hq)
  | false, true, true => List.all_eq_true.mp pc2_20 q (q6 hq)
  | true, false, false => List.all_eq_true.mp pc2_11 q (q6 hq)
  | true, false, true => List.all_eq_true.mp pc2_21 q (q6 hq)
  | true, true, false => List.all_eq_true.mp pc2_21 q (q6 hq)
  | true, true, true => List.all_eq_true.mp pc2_31 q (q6 hq)
theorem ph3 : ∀ a b c u d e f : Bool, pv3 (k3 a b c) u d e f = true
  | false, false, false, false, false, false, f => pc3_0000 f
  | false, false, false, false, false, true, f => pc3_0001 f
  | false, false, false, false, true, false, f => pc3_0010 f
  | false, false, false, false, true, true, f => pc3_0011 f
  | false, false, false, true, false, false, f => pc3_0100 f
  | false, false, false, true, false, true, f => pc3_0101 f
  | false, false, false, true, true, false, f => pc3_0110 f
  | false, false, false, true, true, true, f => pc3_0111 f
  | false, false, true, false, false, false, f => pc3_1000 f
  | false, false, true, false, false, true, f => pc3_1001 f
  | false, false, true, false, true, false, f => pc3_1010 f
  | false, false, true, false, true, true, f => pc3_1011 f
  | false, false, true, true, false, false, f => pc3_1100 f
  | false, false, true, true, false, true, f => pc3_1101 f
  | false, false, true, true, true, false, f => pc3_1110 f
  | false, false, true, true, true, true, f => pc3_1111 f
  | false, true, false, false, false, false, f => pc3_1000 f
  | false, true, false, false, false, true, f => pc3_1001 f
  | false, true, false, false, true, false, f => pc3_1010 f
  | false, true, false, false, true, true, f => pc3_1011 f
  | false, true, false, true, false, false, f => pc3_1100 f
  | false, true, false, true, false, true, f => pc3_1101 f
  | false, true, false, true, true, false, f => pc3_1110 f
  | false, true, false, true, true, true, f => pc3_1111 f
  | false, true, true, false, false, false, f => pc3_2000 f
  | false, true, true, false, false, true, f => pc3_2001 f
  | false, true, true, false, true, false, f => pc3_2010 f
  | false, true, true, false, true, true, f => pc3_2011 f
  | false, true, true, true, false, false, f => pc3_2100 f
  | false, true, true, true, false, true, f => pc3_2101 f
  | false, true, true, true, true, false, f => pc3_2110 f
  | false, true, true, true, true, true, f => pc3_2111 f
  | true, false, false, false, false, false, f => pc3_1000 f
  | true, false, false, false, false, true, f => pc3_1001 f
  | true, false, false, false, true, false, f => pc3_1010 f
  | true, false, false, false, true, true, f => pc3_1011 f
  | true, false, false, true, false, false, f => pc3_1100 f
  | true, false, false, true, false, true, f => pc3_1101 f
  | true, false, false, true, true, false, f => pc3_1110 f
  | true, false, false, true, true, true, f => pc3_1111 f
  | true, false, true, false, false, false, f => pc3_2000 f
  | true, false, true, false, false, true, f => pc3_2001 f
  | true, false, true, false, true, false, f => pc3_2010 f
  | true, false, true, false, true, true, f => pc3_2011 f
  | true, false, true, true, false, false, f => pc3_2100 f
  | true, false, true, true, false, true, f => pc3_2101 f
  | true, false, true, true, true, false, f => pc3_2110 f
  | true, false, true, true, true, true, f => pc3_2111 f
  | true, true, false, false, false, false, f => pc3_2000 f
  | true, true, false, false, false, true, f => pc3_2001 f
  | true, true, false, false, true, false, f => pc3_2010 f
  | true, true, false, false, true, true, f => pc3_2011 f
  | true, true, false, true, false, false, f => pc3_2100 f
  | true, true, false, true, false, true, f => pc3_2101 f
  | true, true, false, true, true, false, f => pc3_2110 f
  | true, true, false, true, true, true, f => pc3_2111 f
  | true, true, true, false, false, false, f => pc3_3000 f
  | true, true, true, false, false, true, f => pc3_3001 f
  | true, true, true, false, true, false, f => pc3_3010 f
  | true, true, true, false, true, true, f => pc3_3011 f
  | true, true, true, true, false, false, f => pc3_3100 f
  | true, true, true, true, false, true, f => pc3_3101 f
  | true, true, true, true, true, false, f => pc3_3110 f
  | true, true, true, true, true, true, f => pc3_3111 f
theorem ph4 : ∀ a b c u d e f : Bool, pv4 (k3 a b c) a u (k3 d e f) d = true
  | false, false, false, u, false, false, false => pc4_0000 u
  | false, false, false, u, false, false, true => pc4_0010 u
  | false, false, false, u, false, true, false => pc4_0010 u
  | false, false, false, u, false, true, true => pc4_0020 u
  | false, false, false, u, true, false, false => pc4_0011 u
  | false, false, false, u, true, false, true => pc4_0021 u
  | false, false, false, u, true, true, false => pc4_0021 u
  | false, false, false, u, true, true, true => pc4_0031 u
  | false, false, true, u, false, false, false => pc4_1000 u
  | false, false, true, u, false, false, true => pc4_1010 u
  | false, false, true, u, false, true, false => pc4_1010 u
  | false, false, true, u, false, true, true => pc4_1020 u
  | false, false, true, u, true, false, false => pc4_1011 u
  | false, false, true, u, true, false, true => pc4_1021 u
  | false, false, true, u, true, true, false => pc4_1021 u
  | false, false, true, u, true, true, true => pc4_1031 u
  | false, true, false, u, false, false, false => pc4_1000 u
  | false, true, false, u, false, false, true => pc4_1010 u
  | false, true, false, u, false, true, false => pc4_1010 u
  | false, true, false, u, false, true, true => pc4_1020 u
  | false, true, false, u, true, false, false => pc4_1011 u
  | false, true, false, u, true, false, true => pc4_1021 u
  | false, true, false, u, true, true, false => pc4_1021 u
  | false, true, false, u, true, true, true => pc4_1031 u
  | false, true, true, u, false, false, false => pc4_2000 u
  | false, true, true, u, false, false, true => pc4_2010 u
  | false, true, true, u, false, true, false => pc4_2010 u
  | false, true, true, u, false, true, true => pc4_2020 u
  | false, true, true, u, true, false, false => pc4_2011 u
  | false, true, true, u, true, false, true => pc4_2021 u
  | false, true, true, u, true, true, false => pc4_2021 u
  | false, true, true, u, true, true, true => pc4_2031 u
  | true, false, false, u, false, false, false => pc4_1100 u
  | true, false, false, u, false, false, true => pc4_1110 u
  | true, false, false, u, false, true, false => pc4_1110 u
  | true, false, false, u, false, true, true => pc4_1120 u
  | true, false, false, u, true, false, false => pc4_1111 u
  | true, false, false, u, true, false, true => pc4_1121 u
  | true, false, false, u, true, true, false => pc4_1121 u
  | true, false, false, u, true, true, true => pc4_1131 u
  | true, false, true, u, false, false, false => pc4_2100 u
  | true, false, true, u, false, false, true => pc4_2110 u
  | true, false, true, u, false, true, false => pc4_2110 u
  | true, false, true, u, false, true, true => pc4_2120 u
  | true, false, true, u, true, false, false => pc4_2111 u
  | true, false, true, u, true, false, true => pc4_2121 u
  | true, false, true, u, true, true, false => pc4_2121 u
  | true, false, true, u, true, true, true => pc4_2131 u
  | true, true, false, u, false, false, false => pc4_2100 u
  | true, true, false, u, false, false, true => pc4_2110 u
  | true, true, false, u, false, true, false => pc4_2110 u
  | true, true, false, u, false, true, true => pc4_2120 u
  | true, true, false, u, true, false, false => pc4_2111 u
  | true, true, false, u, true, false, true => pc4_2121 u
  | true, true, false, u, true, true, false => pc4_2121 u
  | true, true, false, u, true, true, true => pc4_2131 u
  | true, true, true, u, false, false, false => pc4_3100 u
  | true, true, true, u, false, false, true => pc4_3110 u
  | true, true, true, u, false, true, false => pc4_3110 u
  | true, true, true, u, false, true, true => pc4_3120 u
  | true, true, true, u, true, false, false => pc4_3111 u
  | true, true, true, u, true, false, true => pc4_3121 u
  | true, true, true, u, true, true, false => pc4_3121 u
  | true, true, true, u, true, true, true => pc4_3131 u
theorem ph5 {q : Nat} (hq : q < 6) : ∀ a b c u d e f : Bool, pv5 (k3 a b c) (k3 d e f) u q = true
  | false, false, false, u, false, false, false => List.all_eq_true.mp (pc5_00 u) q (q6 hq)
  | false, false, false, u, false, false, true => List.all_eq_true.mp (pc5_01 u) q (q6 hq)
  | false, false, false, u, false, true, false => List.all_eq_true.mp (pc5_01 u) q (q6 hq)
  | false, false, false, u, false, true, true => List.all_eq_true.mp (pc5_02 u) q (q6 hq)
  | false, false, false, u, true, false, false => List.all_eq_true.mp (pc5_01 u) q (q6 hq)
  | false, false, false, u, true, false, true => List.all_eq_true.mp (pc5_02 u) q (q6 hq)
  | false, false, false, u, true, true, false => List.all_eq_true.mp (pc5_02 u) q (q6 hq)
  | false, false, false, u, true, true, true => List.all_eq_true.mp (pc5_03 u) q (q6 hq)
  | false, false, true, u, false, false, false => List.all_eq_true.mp (pc5_10 u) q (q6 hq)
  | false, false, true, u, false, false, true => List.all_eq_true.mp (pc5_11 u) q (q6 hq)
  | false, false, true, u, false, true, false => List.all_eq_true.mp (pc5_11 u) q (q6 hq)
  | false, false, true, u, false, true, true => List.all_eq_true.mp (pc5_12 u) q (q6 hq)
  | false, false, true, u, true, false, false => List.all_eq_true.mp (pc5_11 u) q (q6 hq)
  | false, false, true, u, true, false, true => List.all_eq_true.mp (pc5_12 u) q (q6 hq)
  | false, false, true, u, true, true, false => List.all_eq_true.mp (pc5_12 u) q (q6 hq)
  | false, false, true, u, true, true, true => List.all_eq_true.mp (pc5_13 u) q (q6 hq)
  | false, true, false, u, false, false, false => List.all_eq_true.mp (pc5_10 u) q (q6 hq)
  | false, true, false, u, false, false, true => List.all_eq_true.mp (pc5_11 u) q (q6 hq)
  | false, true, false, u, false, true, false => List.all_eq_true.mp (pc5_11 u) q (q6 hq)
  | false, true, false, u, false, true, true => List.all_eq_true.mp (pc5_12 u) q (q6 hq)
  | false, true, false, u, true, false, false => List.all_eq_true.mp (pc5_11 u) q (q6 hq)
  | false, true, false, u, true, false, true => List.all_eq_true.mp (pc5_12 u) q (q6 hq)
  | false, true, false, u, true, true, false => List.all_eq_true.mp (pc5_12 u) q (q6 hq)
  | false, true, false, u, true, true, true => List.all_eq_true.mp (pc5_13 u) q (q6 hq)
  | false, true, true, u, false, false, false => List.all_eq_true.mp (pc5_20 u) q (q6 hq)
  | false, true, true, u, false, false, true => List.all_eq_true.mp (pc5_21 u) q (q6 hq)
  | false, true, true, u, false, true, false => List.all_eq_true.mp (pc5_21 u) q (q6 hq)
  | false, true, true, u, false, true, true => List.all_eq_true.mp (pc5_22 u) q (q6 hq)
  | false, true, true, u, true, false, false => List.all_eq_true.mp (pc5_21 u) q (q6 hq)
  | false, true, true, u, true, false, true => List.all_eq_true.mp (pc5_22 u) q (q6 hq)
  | false, true, true, u, true, true, false => List.all_eq_true.mp (pc5_22 u) q (q6 hq)
  | false, true, true, u, true, true, true => List.all_eq_true.mp (pc5_23 u) q (q6 hq)
  | true, false, false, u, false, false, false => List.all_eq_true.mp (pc5_10 u) q (q6 hq)
  | true, false, false, u, false, false, true => List.all_eq_true.mp (pc5_11 u) q (q6 hq)
  | true, false, false, u, false, true, false => List.all_eq_true.mp (pc5_11 u) q (q6 hq)
  | true, false, false, u, false, true, true => List.all_eq_true.mp (pc5_12 u) q (q6 hq)
  | true, false, false, u, true, false, false => List.all_eq_true.mp (pc5_11 u) q (q6 hq)
  | true, false, false, u, true, false, true => List.all_eq_true.mp (pc5_12 u) q (q6 hq)
  | true, false, false, u, true, true, false => List.all_eq_true.mp (pc5_12 u) q (q6 hq)
  | true, false, false, u, true, true, true => List.all_eq_true.mp (pc5_13 u) q (q6 hq)
  | true, false, true, u, false, false, false => List.all_eq_true.mp (pc5_20 u) q (q6 hq)
  | true, false, true, u, false, false, true => List.all_eq_true.mp (pc5_21 u) q (q6 hq)
  | true, false, true, u, false, true, false => List.all_eq_true.mp (pc5_21 u) q (q6 hq)
  | true, false, true, u, false, true, true => List.all_eq_true.mp (pc5_22 u) q (q6 hq)
  | true, false, true, u, true, false, false => List.all_eq_true.mp (pc5_21 u) q (q6 hq)
  | true, false, true, u, true, false, true => List.all_eq_true.mp (pc5_22 u) q (q6 hq)
  | true, false, true, u, true, true, false => List.all_eq_true.mp (pc5_22 u) q (q6 hq)
  | true, false, true, u, true, true, true => List.all_eq_true.mp (pc5_23 u) q (q6 hq)
  | true, true, false, u, false, false, false => List.all_eq_true.mp (pc5_20 u) q (q6 hq)
  | true, true, false, u, false, false, true => List.all_eq_true.mp (pc5_21 u) q (q6 hq)
  | true, true, false, u, false, true, false => List.all_eq_true.mp (pc5_21 u) q (q6 hq)
  | true, true, false, u, false, true, true => List.all_eq_true.mp (pc5_22 u) q (q6 hq)
  | true, true, false, u, true, false, false => List.all_eq_true.mp (pc5_21 u) q (q6 hq)
  | true, true, false, u, true, false, true => List.all_eq_true.mp (pc5_22 u) q (q6 hq)
  | true, true, false, u, true, true, false => List.all_eq_true.mp (pc5_22 u) q (q6 hq)
  | true, true, false, u, true, true, true => List.all_eq_true.mp (pc5_23 u) q (q6 hq)
  | true, true, true, u, false, false, false => List.all_eq_true.mp (pc5_30 u) q (q6 hq)
  | true, true, true, u, false, false, true => List.all_eq_true.mp (pc5_31 u) q (q6 hq)
  | true, true, true, u, false, true, false => List.all_eq_true.mp (pc5_31 u) q (q6 hq)
  | true, true, true, u, false, true, true => List.all_eq_true.mp (pc5_32 u) q (q6 hq)
  | true, true, true, u, true, false, false => List.all_eq_true.mp (pc5_31 u) q (q6 hq)
  | true, true, true, u, true, false, true => List.all_eq_true.mp (pc5_32 u) q (q6 hq)
  | true, true, true, u, true, true, false => List.all_eq_true.mp (pc5_32 u) q (q6 hq)
  | true, true, true, u, true, true, true => List.all_eq_true.mp (pc5_33 u) q (q6 hq)
theorem ph6 (n o : Nat) (hn : n < 7) (ho : o < 3) (g h : Bool) : pv6 n o g h = true := by
  match n, o, g, hn, ho with
  | 0, 0, false, _, _ => exact pc6_000 h
  | 0, 0, true, _, _ => exact pc6_001 h
  | 0, 1, false, _, _ => exact pc6_010 h
  | 0, 1, true, _, _ => exact pc6_011 h
  | 0, 2, false, _, _ => exact pc6_020 h
  | 0, 2, true, _, _ => exact pc6_021 h
  | 1, 0, false, _, _ => exact pc6_100 h
  | 1, 0, true, _, _ => exact pc6_101 h
  | 1, 1, false, _, _ => exact pc6_110 h
  | 1, 1, true, _, _ => exact pc6_111 h
  | 1, 2, false, _, _ => exact pc6_120 h
  | 1, 2, true, _, _ => exact pc6_121 h
  | 2, 0, false, _, _ => exact pc6_200 h
  | 2, 0, true, _, _ => exact pc6_201 h
  | 2, 1, false, _, _ => exact pc6_210 h
  | 2, 1, true, _, _ => exact pc6_211 h
  | 2, 2, false, _, _ => exact pc6_220 h
  | 2, 2, true, _, _ => exact pc6_221 h
  | 3, 0, false, _, _ => exact pc6_300 h
  | 3, 0, true, _, _ => exact pc6_301 h
  | 3, 1, false, _, _ => exact pc6_310 h
  | 3, 1, true, _, _ => exact pc6_311 h
  | 3, 2, false, _, _ => exact pc6_320 h
  | 3, 2, true, _, _ => exact pc6_321 h
  | 4, 0, false, _, _ => exact pc6_400 h
  | 4, 0, true, _, _ => exact pc6_401 h
  | 4, 1, false, _, _ => exact pc6_410 h
  | 4, 1, true, _, _ => exact pc6_411 h
  | 4, 2, false, _, _ => exact pc6_420 h
  | 4, 2, true, _, _ => exact pc6_421 h
  | 5, 0, false, _, _ => exact pc6_500 h
  | 5, 0, true, _, _ => exact pc6_501 h
  | 5, 1, false, _, _ => exact pc6_510 h
  | 5, 1, true, _, _ => exact pc6_511 h
  | 5, 2, false, _, _ => exact pc6_520 h
  | 5, 2, true, _, _ => exact pc6_521 h
  | 6, 0, false, _, _ => exact pc6_600 h
  | 6, 0, true, _, _ => exact pc6_601 h
  | 6, 1, false, _, _ => exact pc6_610 h
  | 6, 1, true, _, _ => exact pc6_611 h
  | 6, 2, false, _, _ => exact pc6_620 h
  | 6, 2, true, _, _ => exact pc6_621 h
  | n + 7, _, _, hn, _ => exact absurd hn (by omega)
  | _, o + 3, _, _, ho => exact absurd ho (by omega)
theorem ph7t (a b c : Bool) (kk o : Nat) (hk : kk < 4) (ho : o < 3) (g h : Bool) : pv7 (k3 a b c) a kk o g h true = true := by
  match a, b, c, kk, hk with
  | false, false, false, 0, _ => exact List.all_eq_true.mp (pc7_000 g h) o (q3 ho)
  | false, false, false, 1, _ => exact List.all_eq_true.mp (pc7_001 g h) o (q3 ho)
  | false, false, false, 2, _ => exact List.all_eq_true.mp (pc7_002 g h) o (q3 ho)
  | false, false, false, 3, _ => exact List.all_eq_true.mp (pc7_003 g h) o (q3 ho)
  | false, false, true, 0, _ => exact List.all_eq_true.mp (pc7_100 g h) o (q3 ho)
  | false, false, true, 1, _ => exact List.all_eq_true.mp (pc7_101 g h) o (q3 ho)
  | false, false, true, 2, _ => exact List.all_eq_true.mp (pc7_102 g h) o (q3 ho)
  | false, false, true, 3, _ => exact List.all_eq_true.mp (pc7_103 g h) o (q3 ho)
  | false, true, false, 0, _ => exact List.all_eq_true.mp (pc7_100 g h) o (q3 ho)
  | false, true, false, 1, _ => exact List.all_eq_true.mp (pc7_101 g h) o (q3 ho)
  | false, true, false, 2, _ => exact List.all_eq_true.mp (pc7_102 g h) o (q3 ho)
  | false, true, false, 3, _ => exact List.all_eq_true.mp (pc7_103 g h) o (q3 ho)
  | false, true, true, 0, _ => exact List.all_eq_true.mp (pc7_200 g h) o (q3 ho)
  | false, true, true, 1, _ => exact List.all_eq_true.mp (pc7_201 g h) o (q3 ho)
  | false, true, true, 2, _ => exact List.all_eq_true.mp (pc7_202 g h) o (q3 ho)
  | false, true, true, 3, _ => exact List.all_eq_true.mp (pc7_203 g h) o (q3 ho)
  | true, false, false, 0, _ => exact List.all_eq_true.mp (pc7_110 g h) o (q3 ho)
  | true, false, false, 1, _ => exact List.all_eq_true.mp (pc7_111 g h) o (q3 ho)
  | true, false, false, 2, _ => exact List.all_eq_true.mp (pc7_112 g h) o (q3 ho)
  | true, false, false, 3, _ => exact List.all_eq_true.mp (pc7_113 g h) o (q3 ho)
  | true, false, true, 0, _ => exact List.all_eq_true.mp (pc7_210 g h) o (q3 ho)
  | true, false, true, 1, _ => exact List.all_eq_true.mp (pc7_211 g h) o (q3 ho)
  | true, false, true, 2, _ => exact List.all_eq_true.mp (pc7_212 g h) o (q3 ho)
  | true, false, true, 3, _ => exact List.all_eq_true.mp (pc7_213 g h) o (q3 ho)
  | true, true, false, 0, _ => exact List.all_eq_true.mp (pc7_210 g h) o (q3 ho)
  | true, true, false, 1, _ => exact List.all_eq_true.mp (pc7_211 g h) o (q3 ho)
  | true, true, false, 2, _ => exact List.all_eq_true.mp (pc7_212 g h) o (q3 ho)
  | true, true, false, 3, _ => exact List.all_eq_true.mp (pc7_213 g h) o (q3 ho)
  | true, true, true, 0, _ => exact List.all_eq_true.mp (pc7_310 g h) o (q3 ho)
  | true, true, true, 1, _ => exact List.all_eq_true.mp (pc7_311 g h) o (q3 ho)
  | true, true, true, 2, _ => exact List.all_eq_true.mp (pc7_312 g h) o (q3 ho)
  | true, true, true, 3, _ => exact List.all_eq_true.mp (pc7_313 g h) o (q3 ho)
  | _, _, _, k + 4, hk => exact absurd hk (by omega)
theorem ph8t (n gh o : Nat) (hn : n < 7) (hg : gh < 3) (ho : o < 3) : pv8 n gh o true = true := by
  match n, hn with
  | 0, _ => exact List.all_eq_true.mp (List.all_eq_true.mp pc8_0 gh (q3 hg)) o (q3 ho)
  | 1, _ => exact List.all_eq_true.mp (List.all_eq_true.mp pc8_1 gh (q3 hg)) o (q3 ho)
  | 2, _ => exact List.all_eq_true.mp (List.all_eq_true.mp pc8_2 gh (q3 hg)) o (q3 ho)
  | 3, _ => exact List.all_eq_true.mp (List.all_eq_true.mp pc8_3 gh (q3 hg)) o (q3 ho)
  | 4, _ => exact List.all_eq_true.mp (List.all_eq_true.mp pc8_4 gh (q3 hg)) o (q3 ho)
  | 5, _ => exact List.all_eq_true.mp (List.all_eq_true.mp pc8_5 gh (q3 hg)) o (q3 ho)
  | 6, _ => exact List.all_eq_true.mp (List.all_eq_true.mp pc8_6 gh (q3 hg)) o (q3 ho)
  | n + 7, hn => exact absurd hn (by omega)
theorem ph9 (k o : Nat) (hk : k < 9) (ho : o < 3) (t : Bool) : pv9 k o t = true := by
  match k, hk with
  | 0, _ => exact List.all_eq_true.mp (pc9_0 t) o (q3 ho)
  | 1, _ => exact List.all_eq_true.mp (pc9_1 t) o (q3 ho)
  | 2, _ => exact List.all_eq_true.mp (pc9_2 t) o (q3 ho)
  | 3, _ => exact List.all_eq_true.mp (pc9_3 t) o (q3 ho)
  | 4, _ => exact List.all_eq_true.mp (pc9_4 t) o (q3 ho)
  | 5, _ => exact List.all_eq_true.mp (pc9_5 t) o (q3 ho)
  | 6, _ => exact List.all_eq_true.mp (pc9_6 t) o (q3 ho)
  | 7, _ => exact List.all_eq_true.mp (pc9_7 t) o (q3 ho)
  | 8, _ => exact List.all_eq_true.mp (pc9_8 t) o (q3 ho)
  | n + 9, hn => exact absurd hn (by omega)
theorem ph10 (k kk gh : Nat) (hk : k < 4) (hkk : kk < 4) (hg : gh < 3) : pv10 k kk gh = true := by
  match k, hk with
  | 0, _ => exact List.all_eq_true.mp (List.all_eq_true.mp pc10_0 kk (q4 hkk)) gh (q3 hg)
  | 1, _ => exact List.all_eq_true.mp (List.all_eq_true.mp pc10_1 kk (q4 hkk)) gh (q3 hg)
  | 2, _ => exact List.all_eq_true.mp (List.all_eq_true.mp pc10_2 kk (q4 hkk)) gh (q3 hg)
  | 3, _ => exact List.all_eq_true.mp (List.all_eq_true.mp pc10_3 kk (q4 hkk)) gh (q3 hg)
  | n + 4, hn => exact absurd hn (by omega)
theorem nz0 (a b c d e f g h u v t : Bool) (hz : nz (Nat.add (Nat.add (Nat.add (k3 a b c) (k3 d e f)) (k2' g h)) (Nat.add (Nat.add (bN u) (bN v)) (bN t))) = false) : a = false ∧ b = false ∧ c = false ∧ d = false ∧ e = false ∧ f = false ∧ g = false ∧ h = false ∧ u = false ∧ v = false ∧ t = false := by
  have a0 : ∀ x y : Nat, x + y = 0 → x = 0 ∧ y = 0 := fun x y h => ⟨by omega, by omega⟩
  have b0 : ∀ x : Bool, bN x = 0 → x = false := by decide
  have n0 : ∀ n : Nat, nz n = false → n = 0 := fun n h => by
    cases n with
    | zero => rfl
    | succ k => cases (show true = false from h)
  obtain ⟨h1, h2⟩ := a0 _ _ (n0 _ hz)
  obtain ⟨h3, h4⟩ := a0 _ _ h1
  obtain ⟨h5, h6⟩ := a0 _ _ h3
  obtain ⟨p1, p2⟩ := a0 (bN a) (Nat.add (bN b) (bN c)) h5
  obtain ⟨p3, p4⟩ := a0 _ _ p2
  obtain ⟨p5, p6⟩ := a0 (bN d) (Nat.add (bN e) (bN f)) h6
  obtain ⟨p7, p8⟩ := a0 _ _ p6
  obtain ⟨p9, pa⟩ := a0 (bN g) (bN h) h4
  obtain ⟨pb, pc⟩ := a0 _ _ h2
  obtain ⟨pd, pe⟩ := a0 _ _ pb
  exact ⟨b0 _ p1, b0 _ p3, b0 _ p4, b0 _ p5, b0 _ p7, b0 _ p8, b0 _ p9, b0 _ pa, b0 _ pd, b0 _ pe, b0 _ pc⟩
theorem sx_nod_sub : ∀ {l l' : List Nat}, l.Sublist l' → sx_nod l' = true → sx_nod l = true := by
  intro l l' h
  induction h
  · exact fun h => h
  · rename_i a h ih
    intro h9
    have h9 : (_ && sx_nod _) = true := h9
    rw [Bool.and_eq_true] at h9
    exact ih h9.2
  · rename_i a h ih
    intro h9
    have h9 : (List.all _ (fun y => !Nat.beq a y) && sx_nod _) = true := h9
    rw [Bool.and_eq_true] at h9
    show (List.all _ (fun y => !Nat.beq a y) && sx_nod _) = true
    rw [Bool.and_eq_true]
    exact ⟨List.all_eq_true.mpr fun x hx => List.all_eq_true.mp h9.1 x (h.subset hx), ih h9.2⟩
theorem ph7 (a b c d e f g h u v t : Bool) : pv7 (k3 a b c) a (k3 d e f) (Nat.add (bN u) (bN v)) g h (nz (Nat.add (Nat.add (Nat.add (k3 a b c) (k3 d e f)) (k2' g h)) (Nat.add (Nat.add (bN u) (bN v)) (bN t)))) = true := by
  cases hx : nz (Nat.add (Nat.add (Nat.add (k3 a b c) (k3 d e f)) (k2' g h)) (Nat.add (Nat.add (bN u) (bN v)) (bN t))) with
  | true => exact ph7t a b c (k3 d e f) (Nat.add (bN u) (bN v)) (k3_lt d e f) (oo_lt u v) g h
  | false =>
    obtain ⟨rfl, rfl, rfl, rfl, rfl, rfl, rfl, rfl, rfl, rfl, rfl⟩ := nz0 a b c d e f g h u v t hx
    exact pc7z
theorem ph8 (a b c d e f g h u v t : Bool) : pv8 (Nat.add (k3 a b c) (k3 d e f)) (k2' g h) (Nat.add (bN u) (bN v)) (nz (Nat.add (Nat.add (Nat.add (k3 a b c) (k3 d e f)) (k2' g h)) (Nat.add (Nat.add (bN u) (bN v)) (bN t)))) = true := by
  cases hx : nz (Nat.add (Nat.add (Nat.add (k3 a b c) (k3 d e f)) (k2' g h)) (Nat.add (Nat.add (bN u) (bN v)) (bN t))) with
  | true => exact ph8t (Nat.add (k3 a b c) (k3 d e f)) (k2' g h) (Nat.add (bN u) (bN v)) (kk_lt a b c d e f) (pk2_lt g h) (oo_lt u v)
  | false =>
    obtain ⟨rfl, rfl, rfl, rfl, rfl, rfl, rfl, rfl, rfl, rfl, rfl⟩ := nz0 a b c d e f g h u v t hx
    exact pc8z
def pR1 : List (Nat × sx_C) := pRest
theorem pr1 : ∀ a b c : Bool, (pokR (pu1 a b c) (pR1 ) && pokI (pil 0 (pu1 a b c)) (pu1 a b c) (pR1 )) = true := by decide +kernel
theorem pw1 (a b c : Bool) {z : Nat → Nat} {σ : Nat → Int} (hB : sx_okB σ (pu1 a b c).1) (hθ : ∀ p ∈ pθ1 a b c, sx_ev σ p.2 = σ p.1) : gx_H 60 sm_X7_read 16 600 14 183 z σ ((pu1 a b c).2.2.1.1, (pu1 a b c).2.2.1.2.1, (pu1 a b c).2.2.1.2.2.1, gx_mk pA0, 400) (sx_σi (pu1 a b c).2.2.2.2.2.2.2.1 σ) ((pu1 a b c).2.2.2.2.2.2.2.2.1, (pu1 a b c).2.2.2.2.2.2.2.2.2.1, (pu1 a b c).2.2.2.2.2.2.2.2.2.2.1, gx_mk (pA1 a b c), 400) := by
  have h9 : pv1 a b c = true := ph1 a b c
  unfold pv1 at h9
  rw [Bool.and_eq_true, Bool.and_eq_true] at h9
  obtain ⟨hok, hck, k9⟩ := h9
  have h8 : (pokR (pu1 a b c) (pR1 ) && pokI (pil 0 (pu1 a b c)) (pu1 a b c) (pR1 )) = true := pr1 a b c
  rw [Bool.and_eq_true] at h8
  obtain ⟨hR, hI⟩ := h8
  have n0 := pnA0 
  have k8 : sx_nod ((pR1 ).map Prod.fst) = true := sx_nod_sub (List.Sublist.map Prod.fst (show List.Sublist (pR1 ) pA0 from by
    unfold pR1 pA0
    exact List.sublist_append_of_sublist_right (List.sublist_append_of_sublist_right (List.Sublist.refl _)))) n0
  refine (pM (θ0 := pθ1 a b c) (l0 := pl1 a b c) (l1 := pm1 a b c) (A0 := pA0) (A1 := (pA1 a b c)) (R := pR1 ) hM_read hok hck hR hI hB hθ (fun i c h => pnod n0 ?_) (fun i c h => pnod n0 ?_) (fun i c h => ?_)).mono (Nat.le_of_ble_eq_true rfl) (Nat.le_refl _) (Nat.le_refl _) (Nat.le_refl _) (Nat.le_refl _)
  · have h := sx_lk_in h
    simp only [pl1, List.mem_append] at h
    rcases h with h | h <;> simp only [pA0, List.mem_append, h, true_or, or_true]
  · have h := sx_lk_in h
    simp only [pR1, List.mem_append] at h
    skip <;> simp only [pA0, List.mem_append, h, true_or, or_true]
  · have h := sx_lk_in h
    simp only [pA1, List.mem_append] at h
    rcases h with h | h | h | h | h
    · exact (.inl (pnod k9 (by simp only [pm1, List.mem_append, h, true_or, or_true])))
    · exact (.inl (pnod k9 (by simp only [pm1, List.mem_append, h, true_or, or_true])))
    · exact (.inl (pnod k9 (by simp only [pm1, List.mem_append, h, true_or, or_true])))
    · exact (.inl (pnod k9 (by simp only [pm1, List.mem_append, h, true_or, or_true])))
    · exact (.inr (pnod k8 (by simp only [pR1, List.mem_append, h, true_or, or_true])))
def pR2 (a b c : Bool) : List (Nat × sx_C) := ptoc 0 a none pN ++ (pops 0 37 11 12 a b c none ++ (pRest))
theorem pr2 : ∀ a b c : Bool, ([0, 1, 2, 3, 4, 5] : List Nat).all (fun q => pokR (pu2 (k3 a b c) a q) (pR2 a b c) && pokI (pil (Nat.add 4 (k3 a b c)) (pu2 (k3 a b c) a q)) (pu2 (k3 a b c) a q) (pR2 a b c)) = true := by decide +kernel
theorem pw2 (a b c : Bool) (q : Nat) {z : Nat → Nat} {σ : Nat → Int} (hq : q < 6) (hB : sx_okB σ (pu2 (k3 a b c) a q).1) (hθ : ∀ p ∈ pθ2 (k3 a b c) a q, sx_ev σ p.2 = σ p.1) : gx_H 60 sm_X7_read 16 600 1 14 z σ ((pu2 (k3 a b c) a q).2.2.1.1, (pu2 (k3 a b c) a q).2.2.1.2.1, (pu2 (k3 a b c) a q).2.2.1.2.2.1, gx_mk (pA1 a b c), 400) (sx_σi (pu2 (k3 a b c) a q).2.2.2.2.2.2.2.1 σ) ((pu2 (k3 a b c) a q).2.2.2.2.2.2.2.2.1, (pu2 (k3 a b c) a q).2.2.2.2.2.2.2.2.2.1, (pu2 (k3 a b c) a q).2.2.2.2.2.2.2.2.2.2.1, gx_mk (pA2 a b c (wwide q)), 400) := by
  have h9 : pv2 (k3 a b c) a q = true := ph2 hq a b c
  unfold pv2 at h9
  rw [Bool.and_eq_true, Bool.and_eq_true] at h9
  obtain ⟨hok, hck, k9⟩ := h9
  have h8 : (pokR (pu2 (k3 a b c) a q) (pR2 a b c) && pokI (pil (Nat.add 4 (k3 a b c)) (pu2 (k3 a b c) a q)) (pu2 (k3 a b c) a q) (pR2 a b c)) = true := List.all_eq_true.mp (pr2 a b c) q (q6 hq)
  rw [Bool.and_eq_true] at h8
  obtain ⟨hR, hI⟩ := h8
  have n0 := pnA1 a b c
  have k8 : sx_nod ((pR2 a b c).map Prod.fst) = true := sx_nod_sub (List.Sublist.map Prod.fst (show List.Sublist (pR2 a b c) (pA1 a b c) from by
    unfold pR2 pA1
    exact List.sublist_append_of_sublist_right (List.sublist_append_of_sublist_right (List.Sublist.append (List.Sublist.refl _) (List.Sublist.append (List.Sublist.refl _) (List.Sublist.refl _)))))) n0
  refine (pM (θ0 := pθ2 (k3 a b c) a q) (l0 := pl2 (k3 a b c) a q) (l1 := pm2 (k3 a b c) a q) (A0 := (pA1 a b c)) (A1 := (pA2 a b c (wwide q))) (R := pR2 a b c) hM_read hok hck hR hI hB hθ (fun i c h => pnod n0 ?_) (fun i c h => pnod n0 ?_) (fun i c h => ?_)).mono (Nat.le_trans (by decide : 60 ≤ 300) (Nat.le_add_right _ _)) (Nat.le_refl _) (Nat.le_refl _) (Nat.le_refl _) (Nat.le_refl _)
  · have h := sx_lk_in h
    simp only [pl2, List.mem_append] at h
    rcases h with h | h <;> simp only [pA1, List.mem_append, h, true_or, or_true]
  · have h := sx_lk_in h
    simp only [pR2, List.mem_append] at h
    rcases h with h | h | h <;> simp only [pA1, List.mem_append, h, true_or, or_true]
  · have h := sx_lk_in h
    simp only [pA2, List.mem_append] at h
    rcases h with h | h | h | h | h | h
    · exact (.inl (pnod k9 (by simp only [pm2, List.mem_append, h, true_or, or_true])))
    · exact (.inl (pnod k9 (by simp only [pm2, List.mem_append, h, true_or, or_true])))
    · exact (.inl (pnod k9 (by simp only [pm2, List.mem_append, h, true_or, or_true])))
    · exact (.inr (pnod k8 (by simp only [pR2, List.mem_append, h, true_or, or_true])))
    · exact (.inr (pnod k8 (by simp only [pR2, List.mem_append, h, true_or, or_true])))
    · exact (.inr (pnod k8 (by simp only [pR2, List.mem_append, h, true_or, or_true])))
def pR3 (a b c u : Bool) : List (Nat × sx_C) := po1 (k3 a b c) none (pnI (Nat.add 1 (bN a))) (some (pI (pnI (Nat.add 1 (bN a))))) pN 1 ++ (ptoc 0 a none pN ++ (pops 0 37 11 12 a b c none ++ (pRest)))
theorem pr3_00 : ∀ b c u e f : Bool, (pokR (pu3 (k3 false b c) u false e f) (pR3 false b c u) && pokI (pil (Nat.add 5 (k3 false b c)) (pu3 (k3 false b c) u false e f)) (pu3 (k3 false b c) u false e f) (pR3 false b c u)) = true := by decide +kernel
theorem pr3_01 : ∀ b c u e f : Bool, (pokR (pu3 (k3 false b c) u true e f) (pR3 false b c u) && pokI (pil (Nat.add 5 (k3 false b c)) (pu3 (k3 false b c) u true e f)) (pu3 (k3 false b c) u true e f) (pR3 false b c u)) = true := by decide +kernel
theorem pr3_10 : ∀ b c u e f : Bool, (pokR (pu3 (k3 true b c) u false e f) (pR3 true b c u) && pokI (pil (Nat.add 5 (k3 true b c)) (pu3 (k3 true b c) u false e f)) (pu3 (k3 true b c) u false e f) (pR3 true b c u)) = true := by decide +kernel
theorem pr3_11 : ∀ b c u e f : Bool, (pokR (pu3 (k3 true b c) u true e f) (pR3 true b c u) && pokI (pil (Nat.add 5 (k3 true b c)) (pu3 (k3 true b c) u true e f)) (pu3 (k3 true b c) u true e f) (pR3 true b c u)) = true := by decide +kernel
theorem pr3 : ∀ a b c u d e f : Bool, (pokR (pu3 (k3 a b c) u d e f) (pR3 a b c u) && pokI (pil (Nat.add 5 (k3 a b c)) (pu3 (k3 a b c) u d e f)) (pu3 (k3 a b c) u d e f) (pR3 a b c u)) = true := by
  intro a b c u d e f
  cases a <;> cases d
  · exact pr3_00 b c u e f
  · exact pr3_01 b c u e f
  · exact pr3_10 b c u e f
  · exact pr3_11 b c u e f
theorem pw3 (a b c u d e f : Bool) {z : Nat → Nat} {σ : Nat → Int} (hB : sx_okB σ (pu3 (k3 a b c) u d e f).1) (hθ : ∀ p ∈ pθ3 (k3 a b c) u d e f, sx_ev σ p.2 = σ p.1) : gx_H 60 sm_X7_read 16 600 12 160 z σ ((pu3 (k3 a b c) u d e f).2.2.1.1, (pu3 (k3 a b c) u d e f).2.2.1.2.1, (pu3 (k3 a b c) u d e f).2.2.1.2.2.1, gx_mk (pA2 a b c u), 400) (sx_σi (pu3 (k3 a b c) u d e f).2.2.2.2.2.2.2.1 σ) ((pu3 (k3 a b c) u d e f).2.2.2.2.2.2.2.2.1, (pu3 (k3 a b c) u d e f).2.2.2.2.2.2.2.2.2.1, (pu3 (k3 a b c) u d e f).2.2.2.2.2.2.2.2.2.2.1, gx_mk (pA3 a b c u d e f), 400) := by
  have h9 : pv3 (k3 a b c) u d e f = true := ph3 a b c u d e f
  unfold pv3 at h9
  rw [Bool.and_eq_true, Bool.and_eq_true] at h9
  obtain ⟨hok, hck, k9⟩ := h9
  have h8 : (pokR (pu3 (k3 a b c) u d e f) (pR3 a b c u) && pokI (pil (Nat.add 5 (k3 a b c)) (pu3 (k3 a b c) u d e f)) (pu3 (k3 a b c) u d e f) (pR3 a b c u)) = true := pr3 a b c u d e f
  rw [Bool.and_eq_true] at h8
  obtain ⟨hR, hI⟩ := h8
  have n0 := pnA2 a b c u
  have k8 : sx_nod ((pR3 a b c u).map Prod.fst) = true := sx_nod_sub (List.Sublist.map Prod.fst (show List.Sublist (pR3 a b c u) (pA2 a b c u) from by
    unfold pR3 pA2
    exact List.sublist_append_of_sublist_right (List.sublist_append_of_sublist_right (List.Sublist.append (List.Sublist.refl _) (List.Sublist.append (List.Sublist.refl _) (List.Sublist.append (List.Sublist.refl _) (List.Sublist.refl _))))))) n0
  refine (pM (θ0 := pθ3 (k3 a b c) u d e f) (l0 := pl3 (k3 a b c) u d e f) (l1 := pm3 (k3 a b c) u d e f) (A0 := (pA2 a b c u)) (A1 := (pA3 a b c u d e f)) (R := pR3 a b c u) hM_read hok hck hR hI hB hθ (fun i c h => pnod n0 ?_) (fun i c h => pnod n0 ?_) (fun i c h => ?_)).mono (Nat.le_trans (by decide : 60 ≤ 300) (Nat.le_add_right _ _)) (Nat.le_refl _) (Nat.le_refl _) (Nat.le_refl _) (Nat.le_refl _)
  · have h := sx_lk_in h
    simp only [pl3, List.mem_append] at h
    rcases h with h | h <;> simp only [pA2, List.mem_append, h, true_or, or_true]
  · have h := sx_lk_in h
    simp only [pR3, List.mem_append] at h
    rcases h with h | h | h | h <;> simp only [pA2, List.mem_append, h, true_or, or_true]
  · have h := sx_lk_in h
    simp only [pA3, List.mem_append] at h
    rcases h with h | h | h | h | h | h | h | h
    · exact (.inl (pnod k9 (by simp only [pm3, List.mem_append, h, true_or, or_true])))
    · exact (.inl (pnod k9 (by simp only [pm3, List.mem_append, h, true_or, or_true])))
    · exact (.inr (pnod k8 (by simp only [pR3, List.mem_append, h, true_or, or_true])))
    · exact (.inr (pnod k8 (by simp only [pR3, List.mem_append, h, true_or, or_true])))
    · exact (.inl (pnod k9 (by simp only [pm3, List.mem_append, h, true_or, or_true])))
    · exact (.inl (pnod k9 (by simp only [pm3, List.mem_append, h, true_or, or_true])))
    · exact (.inr (pnod k8 (by simp only [pR3, List.mem_append, h, true_or, or_true])))
    · exact (.inr (pnod k8 (by simp only [pR3, List.mem_append, h, true_or, or_true])))
def pR4 (a b c u d e f : Bool) : List (Nat × sx_C) := ptoc (Nat.add 5 (k3 a b c)) d none pN ++ (pops (Nat.add 5 (k3 a b c)) 32 33 34 d e f none ++ (pops 0 37 11 12 a b c none ++ (pRest)))
theorem pr4_00 : ∀ b c u e f : Bool, (pokR (pu4 (k3 false b c) false u (k3 false e f) false) (pR4 false b c u false e f) && pokI (pil (Nat.add 9 (Nat.add (k3 false b c) (k3 false e f))) (pu4 (k3 false b c) false u (k3 false e f) false)) (pu4 (k3 false b c) false u (k3 false e f) false) (pR4 false b c u false e f)) = true := by decide +kernel
theorem pr4_01 : ∀ b c u e f : Bool, (pokR (pu4 (k3 false b c) false u (k3 true e f) true) (pR4 false b c u true e f) && pokI (pil (Nat.add 9 (Nat.add (k3 false b c) (k3 true e f))) (pu4 (k3 false b c) false u (k3 true e f) true)) (pu4 (k3 false b c) false u (k3 true e f) true) (pR4 false b c u true e f)) = true := by decide +kernel
theorem pr4_10 : ∀ b c u e f : Bool, (pokR (pu4 (k3 true b c) true u (k3 false e f) false) (pR4 true b c u false e f) && pokI (pil (Nat.add 9 (Nat.add (k3 true b c) (k3 false e f))) (pu4 (k3 true b c) true u (k3 false e f) false)) (pu4 (k3 true b c) true u (k3 false e f) false) (pR4 true b c u false e f)) = true := by decide +kernel
theorem pr4_11 : ∀ b c u e f : Bool, (pokR (pu4 (k3 true b c) true u (k3 true e f) true) (pR4 true b c u true e f) && pokI (pil (Nat.add 9 (Nat.add (k3 true b c) (k3 true e f))) (pu4 (k3 true b c) true u (k3 true e f) true)) (pu4 (k3 true b c) true u (k3 true e f) true) (pR4 true b c u true e f)) = true := by decide +kernel
theorem pr4 : ∀ a b c u d e f : Bool, (pokR (pu4 (k3 a b c) a u (k3 d e f) d) (pR4 a b c u d e f) && pokI (pil (Nat.add 9 (Nat.add (k3 a b c) (k3 d e f))) (pu4 (k3 a b c) a u (k3 d e f) d)) (pu4 (k3 a b c) a u (k3 d e f) d) (pR4 a b c u d e f)) = true := by
  intro a b c u d e f
  cases a <;> cases d
  · exact pr4_00 b c u e f
  · exact pr4_01 b c u e f
  · exact pr4_10 b c u e f
  · exact pr4_11 b c u e f
theorem pw4 (a b c u d e f : Bool) {z : Nat → Nat} {σ : Nat → Int} (hB : sx_okB σ (pu4 (k3 a b c) a u (k3 d e f) d).1) (hθ : ∀ p ∈ pθ4 (k3 a b c) a u (k3 d e f) d, sx_ev σ p.2 = σ p.1) : gx_H 60 sm_X7_read 16 600 0 0 z σ ((pu4 (k3 a b c) a u (k3 d e f) d).2.2.1.1, (pu4 (k3 a b c) a u (k3 d e f) d).2.2.1.2.1, (pu4 (k3 a b c) a u (k3 d e f) d).2.2.1.2.2.1, gx_mk (pA3 a b c u d e f), 400) (sx_σi (pu4 (k3 a b c) a u (k3 d e f) d).2.2.2.2.2.2.2.1 σ) ((pu4 (k3 a b c) a u (k3 d e f) d).2.2.2.2.2.2.2.2.1, (pu4 (k3 a b c) a u (k3 d e f) d).2.2.2.2.2.2.2.2.2.1, (pu4 (k3 a b c) a u (k3 d e f) d).2.2.2.2.2.2.2.2.2.2.1, gx_mk (pA4 a b c u d e f), 400) := by
  have h9 : pv4 (k3 a b c) a u (k3 d e f) d = true := ph4 a b c u d e f
  unfold pv4 at h9
  rw [Bool.and_eq_true, Bool.and_eq_true] at h9
  obtain ⟨hok, hck, k9⟩ := h9
  have h8 : (pokR (pu4 (k3 a b c) a u (k3 d e f) d) (pR4 a b c u d e f) && pokI (pil (Nat.add 9 (Nat.add (k3 a b c) (k3 d e f))) (pu4 (k3 a b c) a u (k3 d e f) d)) (pu4 (k3 a b c) a u (k3 d e f) d) (pR4 a b c u d e f)) = true := pr4 a b c u d e f
  rw [Bool.and_eq_true] at h8
  obtain ⟨hR, hI⟩ := h8
  have n0 := pnA3 a b c u d e f
  have k8 : sx_nod ((pR4 a b c u d e f).map Prod.fst) = true := sx_nod_sub (List.Sublist.map Prod.fst (show List.Sublist (pR4 a b c u d e f) (pA3 a b c u d e f) from by
    unfold pR4 pA3
    exact List.sublist_append_of_sublist_right (List.sublist_append_of_sublist_right (List.sublist_append_of_sublist_right (List.sublist_append_of_sublist_right (List.Sublist.append (List.Sublist.refl _) (List.Sublist.append (List.Sublist.refl _) (List.Sublist.append (List.Sublist.refl _) (List.Sublist.refl _))))))))) n0
  refine (pM (θ0 := pθ4 (k3 a b c) a u (k3 d e f) d) (l0 := pl4 (k3 a b c) a u (k3 d e f) d) (l1 := pm4 (k3 a b c) a u (k3 d e f) d) (A0 := (pA3 a b c u d e f)) (A1 := (pA4 a b c u d e f)) (R := pR4 a b c u d e f) hM_read hok hck hR hI hB hθ (fun i c h => pnod n0 ?_) (fun i c h => pnod n0 ?_) (fun i c h => ?_)).mono (Nat.le_trans (by decide : 60 ≤ 300) (Nat.le_add_right _ _)) (Nat.le_refl _) (Nat.le_refl _) (Nat.le_refl _) (Nat.le_refl _)
  · have h := sx_lk_in h
    simp only [pl4, List.mem_append] at h
    rcases h with h | h | h | h <;> simp only [pA3, List.mem_append, h, true_or, or_true]
  · have h := sx_lk_in h
    simp only [pR4, List.mem_append] at h
    rcases h with h | h | h | h <;> simp only [pA3, List.mem_append, h, true_or, or_true]
  · have h := sx_lk_in h
    simp only [pA4, List.mem_append] at h
    rcases h with h | h | h | h | h | h | h | h
    · exact (.inl (pnod k9 (by simp only [pm4, List.mem_append, h, true_or, or_true])))
    · exact (.inl (pnod k9 (by simp only [pm4, List.mem_append, h, true_or, or_true])))
    · exact (.inl (pnod k9 (by simp only [pm4, List.mem_append, h, true_or, or_true])))
    · exact (.inl (pnod k9 (by simp only [pm4, List.mem_append, h, true_or, or_true])))
    · exact (.inr (pnod k8 (by simp only [pR4, List.mem_append, h, true_or, or_true])))
    · exact (.inr (pnod k8 (by simp only [pR4, List.mem_append, h, true_or, or_true])))
    · exact (.inr (pnod k8 (by simp only [pR4, List.mem_append, h, true_or, or_true])))
    · exact (.inr (pnod k8 (by simp only [pR4, List.mem_append, h, true_or, or_true])))
def pR5 (a b c u d e f : Bool) : List (Nat × sx_C) := po1 (k3 a b c) none (pnI (Nat.add 1 (bN a))) none pN 2 ++ (ptoc 0 a none (pI (pnI (Nat.add 6 (Nat.add (k3 a b c) (bN d))))) ++ (ptoc (Nat.add 5 (k3 a b c)) d none pN ++ (pops (Nat.add 5 (k3 a b c)) 32 33 34 d e f none ++ (pops 0 37 11 12 a b c none ++ (pRest)))))
theorem pr5_00 : ∀ b c u e f : Bool, ([0, 1, 2, 3, 4, 5] : List Nat).all (fun q => pokR (pu5 (k3 false b c) (k3 false e f) u q) (pR5 false b c u false e f) && pokI (pil (Nat.add 9 (Nat.add (k3 false b c) (k3 false e f))) (pu5 (k3 false b c) (k3 false e f) u q)) (pu5 (k3 false b c) (k3 false e f) u q) (pR5 false b c u false e f)) = true := by decide +kernel
theorem pr5_01 : ∀ b c u e f : Bool, ([0, 1, 2, 3, 4, 5] : List Nat).all (fun q => pokR (pu5 (k3 false b c) (k3 true e f) u q) (pR5 false b c u true e f) && pokI (pil (Nat.add 9 (Nat.add (k3 false b c) (k3 true e f))) (pu5 (k3 false b c) (k3 true e f) u q)) (pu5 (k3 false b c) (k3 true e f) u q) (pR5 false b c u true e f)) = true := by decide +kernel
theorem pr5_10 : ∀ b c u e f : Bool, ([0, 1, 2, 3, 4, 5] : List Nat).all (fun q => pokR (pu5 (k3 true b c) (k3 false e f) u q) (pR5 true b c u false e f) && pokI (pil (Nat.add 9 (Nat.add (k3 true b c) (k3 false e f))) (pu5 (k3 true b c) (k3 false e f) u q)) (pu5 (k3 true b c) (k3 false e f) u q) (pR5 true b c u false e f)) = true := by decide +kernel
theorem pr5_11 : ∀ b c u e f : Bool, ([0, 1, 2, 3, 4, 5] : List Nat).all (fun q => pokR (pu5 (k3 true b c) (k3 true e f) u q) (pR5 true b c u true e f) && pokI (pil (Nat.add 9 (Nat.add (k3 true b c) (k3 true e f))) (pu5 (k3 true b c) (k3 true e f) u q)) (pu5 (k3 true b c) (k3 true e f) u q) (pR5 true b c u true e f)) = true := by decide +kernel
theorem pr5 : ∀ a b c u d e f : Bool, ([0, 1, 2, 3, 4, 5] : List Nat).all (fun q => pokR (pu5 (k3 a b c) (k3 d e f) u q) (pR5 a b c u d e f) && pokI (pil (Nat.add 9 (Nat.add (k3 a b c) (k3 d e f))) (pu5 (k3 a b c) (k3 d e f) u q)) (pu5 (k3 a b c) (k3 d e f) u q) (pR5 a b c u d e f)) = true := by
  intro a b c u d e f
  cases a <;> cases d
  · exact pr5_00 b c u e f
  · exact pr5_01 b c u e f
  · exact pr5_10 b c u e f
  · exact pr5_11 b c u e f
theorem pw5 (a b c u d e f : Bool) (q : Nat) {z : Nat → Nat} {σ : Nat → Int} (hq : q < 6) (hB : sx_okB σ (pu5 (k3 a b c) (k3 d e f) u q).1) (hθ : ∀ p ∈ pθ5 (k3 a b c) (k3 d e f) u q, sx_ev σ p.2 = σ p.1) : gx_H 60 sm_X7_read 16 600 2 36 z σ ((pu5 (k3 a b c) (k3 d e f) u q).2.2.1.1, (pu5 (k3 a b c) (k3 d e f) u q).2.2.1.2.1, (pu5 (k3 a b c) (k3 d e f) u q).2.2.1.2.2.1, gx_mk (pA4 a b c u d e f), 400) (sx_σi (pu5 (k3 a b c) (k3 d e f) u q).2.2.2.2.2.2.2.1 σ) ((pu5 (k3 a b c) (k3 d e f) u q).2.2.2.2.2.2.2.2.1, (pu5 (k3 a b c) (k3 d e f) u q).2.2.2.2.2.2.2.2.2.1, (pu5 (k3 a b c) (k3 d e f) u q).2.2.2.2.2.2.2.2.2.2.1, gx_mk (pA5 a b c u d e f (wwide q)), 400) := by
  have h9 : pv5 (k3 a b c) (k3 d e f) u q = true := ph5 hq a b c u d e f
  unfold pv5 at h9
  rw [Bool.and_eq_true, Bool.and_eq_true] at h9
  obtain ⟨hok, hck, k9⟩ := h9
  have h8 : (pokR (pu5 (k3 a b c) (k3 d e f) u q) (pR5 a b c u d e f) && pokI (pil (Nat.add 9 (Nat.add (k3 a b c) (k3 d e f))) (pu5 (k3 a b c) (k3 d e f) u q)) (pu5 (k3 a b c) (k3 d e f) u q) (pR5 a b c u d e f)) = true := List.all_eq_true.mp (pr5 a b c u d e f) q (q6 hq)
  rw [Bool.and_eq_true] at h8
  obtain ⟨hR, hI⟩ := h8
  have n0 := pnA4 a b c u d e f
  have k8 : sx_nod ((pR5 a b c u d e f).map Prod.fst) = true := sx_nod_sub (List.Sublist.map Prod.fst (show List.Sublist (pR5 a b c u d e f) (pA4 a b c u d e f) from by
    unfold pR5 pA4
    exact List.sublist_append_of_sublist_right (List.sublist_append_of_sublist_right (List.Sublist.append (List.Sublist.refl _) (List.Sublist.append (List.Sublist.refl _) (List.Sublist.append (List.Sublist.refl _) (List.Sublist.append (List.Sublist.refl _) (List.Sublist.append (List.Sublist.refl _) (List.Sublist.refl _))))))))) n0
  refine (pM (θ0 := pθ5 (k3 a b c) (k3 d e f) u q) (l0 := pl5 (k3 a b c) (k3 d e f) u q) (l1 := pm5 (k3 a b c) (k3 d e f) u q) (A0 := (pA4 a b c u d e f)) (A1 := (pA5 a b c u d e f (wwide q))) (R := pR5 a b c u d e f) hM_read hok hck hR hI hB hθ (fun i c h => pnod n0 ?_) (fun i c h => pnod n0 ?_) (fun i c h => ?_)).mono (Nat.le_trans (by decide : 60 ≤ 300) (Nat.le_add_right _ _)) (Nat.le_refl _) (Nat.le_refl _) (Nat.le_refl _) (Nat.le_refl _)
  · have h := sx_lk_in h
    simp only [pl5, List.mem_append] at h
    rcases h with h | h <;> simp only [pA4, List.mem_append, h, true_or, or_true]
  · have h := sx_lk_in h
    simp only [pR5, List.mem_append] at h
    rcases h with h | h | h | h | h | h <;> simp only [pA4, List.mem_append, h, true_or, or_true]
  · have h := sx_lk_in h
    simp only [pA5, List.mem_append] at h
    rcases h with h | h | h | h | h | h | h | h | h
    · exact (.inl (pnod k9 (by simp only [pm5, List.mem_append, h, true_or, or_true])))
    · exact (.inl (pnod k9 (by simp only [pm5, List.mem_append, h, true_or, or_true])))
    · exact (.inl (pnod k9 (by simp only [pm5, List.mem_append, h, true_or, or_true])))
    · exact (.inr (pnod k8 (by simp only [pR5, List.mem_append, h, true_or, or_true])))
    · exact (.inr (pnod k8 (by simp only [pR5, List.mem_append, h, true_or, or_true])))
    · exact (.inr (pnod k8 (by simp only [pR5, List.mem_append, h, true_or, or_true])))
    · exact (.inr (pnod k8 (by simp only [pR5, List.mem_append, h, true_or, or_true])))
    · exact (.inr (pnod k8 (by simp only [pR5, List.mem_append, h, true_or, or_true])))
    · exact (.inr (pnod k8 (by simp only [pR5, List.mem_append, h, true_or, or_true])))
def pR6 (a b c u d e f v : Bool) : List (Nat × sx_C) := po2 (k3 a b c) (k3 d e f) none (some (pI (pnI (Nat.add 4 (k3 a b c))))) pN 1 ++ (po1 (k3 a b c) none (pnI (Nat.add 1 (bN a))) none pN 2 ++ (ptoc 0 a none (pI (pnI (Nat.add 6 (Nat.add (k3 a b c) (bN d))))) ++ (ptoc (Nat.add 5 (k3 a b c)) d none pN ++ (pops (Nat.add 5 (k3 a b c)) 32 33 34 d e f none ++ (pops 0 37 11 12 a b c none ++ (pRest))))))
theorem pr6_00 : ∀ b c e f g h : Bool, ([0, 1, 2] : List Nat).all (fun o => pokR (pu6 (Nat.add (k3 false b c) (k3 false e f)) o g h) (pR6 false b c false false e f false) && pokI (pil (Nat.add 10 (Nat.add (k3 false b c) (k3 false e f))) (pu6 (Nat.add (k3 false b c) (k3 false e f)) o g h)) (pu6 (Nat.add (k3 false b c) (k3 false e f)) o g h) (pR6 false b c false false e f false)) = true := by decide +kernel
theorem pr6_01 : ∀ b c e f g h : Bool, ([0, 1, 2] : List Nat).all (fun o => pokR (pu6 (Nat.add (k3 false b c) (k3 true e f)) o g h) (pR6 false b c false true e f false) && pokI (pil (Nat.add 10 (Nat.add (k3 false b c) (k3 true e f))) (pu6 (Nat.add (k3 false b c) (k3 true e f)) o g h)) (pu6 (Nat.add (k3 false b c) (k3 true e f)) o g h) (pR6 false b c false true e f false)) = true := by decide +kernel
theorem pr6_10 : ∀ b c e f g h : Bool, ([0, 1, 2] : List Nat).all (fun o => pokR (pu6 (Nat.add (k3 true b c) (k3 false e f)) o g h) (pR6 true b c false false e f false) && pokI (pil (Nat.add 10 (Nat.add (k3 true b c) (k3 false e f))) (pu6 (Nat.add (k3 true b c) (k3 false e f)) o g h)) (pu6 (Nat.add (k3 true b c) (k3 false e f)) o g h) (pR6 true b c false false e f false)) = true := by decide +kernel
theorem pr6_11 : ∀ b c e f g h : Bool, ([0, 1, 2] : List Nat).all (fun o => pokR (pu6 (Nat.add (k3 true b c) (k3 true e f)) o g h) (pR6 true b c false true e f false) && pokI (pil (Nat.add 10 (Nat.add (k3 true b c) (k3 true e f))) (pu6 (Nat.add (k3 true b c) (k3 true e f)) o g h)) (pu6 (Nat.add (k3 true b c) (k3 true e f)) o g h) (pR6 true b c false true e f false)) = true := by decide +kernel
theorem pr6 : ∀ a b c d e f g h : Bool, ([0, 1, 2] : List Nat).all (fun o => pokR (pu6 (Nat.add (k3 a b c) (k3 d e f)) o g h) (pR6 a b c false d e f false) && pokI (pil (Nat.add 10 (Nat.add (k3 a b c) (k3 d e f))) (pu6 (Nat.add (k3 a b c) (k3 d e f)) o g h)) (pu6 (Nat.add (k3 a b c) (k3 d e f)) o g h) (pR6 a b c false d e f false)) = true := by
  intro a b c d e f g h
  cases a <;> cases d
  · exact pr6_00 b c e f g h
  · exact pr6_01 b c e f g h
  · exact pr6_10 b c e f g h
  · exact pr6_11 b c e f g h
theorem pw6 (a b c u d e f v g h : Bool) {z : Nat → Nat} {σ : Nat → Int} (hB : sx_okB σ (pu6 (Nat.add (k3 a b c) (k3 d e f)) (Nat.add (bN u) (bN v)) g h).1) (hθ : ∀ p ∈ pθ6 (Nat.add (k3 a b c) (k3 d e f)) (Nat.add (bN u) (bN v)) g h, sx_ev σ p.2 = σ p.1) : gx_H 60 sm_X7_read 16 600 9 128 z σ ((pu6 (Nat.add (k3 a b c) (k3 d e f)) (Nat.add (bN u) (bN v)) g h).2.2.1.1, (pu6 (Nat.add (k3 a b c) (k3 d e f)) (Nat.add (bN u) (bN v)) g h).2.2.1.2.1, (pu6 (Nat.add (k3 a b c) (k3 d e f)) (Nat.add (bN u) (bN v)) g h).2.2.1.2.2.1, gx_mk (pA5 a b c u d e f v), 400) (sx_σi (pu6 (Nat.add (k3 a b c) (k3 d e f)) (Nat.add (bN u) (bN v)) g h).2.2.2.2.2.2.2.1 σ) ((pu6 (Nat.add (k3 a b c) (k3 d e f)) (Nat.add (bN u) (bN v)) g h).2.2.2.2.2.2.2.2.1, (pu6 (Nat.add (k3 a b c) (k3 d e f)) (Nat.add (bN u) (bN v)) g h).2.2.2.2.2.2.2.2.2.1, (pu6 (Nat.add (k3 a b c) (k3 d e f)) (Nat.add (bN u) (bN v)) g h).2.2.2.2.2.2.2.2.2.2.1, gx_mk (pA6 a b c u d e f v g h), 400) := by
  have h9 : pv6 (Nat.add (k3 a b c) (k3 d e f)) (Nat.add (bN u) (bN v)) g h = true := ph6 _ _ (kk_lt a b c d e f) (oo_lt u v) g h
  unfold pv6 at h9
  rw [Bool.and_eq_true, Bool.and_eq_true] at h9
  obtain ⟨hok, hck, k9⟩ := h9
  have h8 : (pokR (pu6 (Nat.add (k3 a b c) (k3 d e f)) (Nat.add (bN u) (bN v)) g h) (pR6 a b c u d e f v) && pokI (pil (Nat.add 10 (Nat.add (k3 a b c) (k3 d e f))) (pu6 (Nat.add (k3 a b c) (k3 d e f)) (Nat.add (bN u) (bN v)) g h)) (pu6 (Nat.add (k3 a b c) (k3 d e f)) (Nat.add (bN u) (bN v)) g h) (pR6 a b c u d e f v)) = true := List.all_eq_true.mp (pr6 a b c d e f g h) _ (q3 (oo_lt u v))
  rw [Bool.and_eq_true] at h8
  obtain ⟨hR, hI⟩ := h8
  have n0 := pnA5 a b c u d e f v
  have k8 : sx_nod ((pR6 a b c u d e f v).map Prod.fst) = true := sx_nod_sub (List.Sublist.map Prod.fst (show List.Sublist (pR6 a b c u d e f v) (pA5 a b c u d e f v) from by
    unfold pR6 pA5
    exact List.sublist_append_of_sublist_right (List.sublist_append_of_sublist_right (List.Sublist.append (List.Sublist.refl _) (List.Sublist.append (List.Sublist.refl _) (List.Sublist.append (List.Sublist.refl _) (List.Sublist.append (List.Sublist.refl _) (List.Sublist.append (List.Sublist.refl _) (List.Sublist.append (List.Sublist.refl _) (List.Sublist.refl _)))))))))) n0
  refine (pM (θ0 := pθ6 (Nat.add (k3 a b c) (k3 d e f)) (Nat.add (bN u) (bN v)) g h) (l0 := pl6 (Nat.add (k3 a b c) (k3 d e f)) (Nat.add (bN u) (bN v)) g h) (l1 := pm6 (Nat.add (k3 a b c) (k3 d e f)) (Nat.add (bN u) (bN v)) g h) (A0 := (pA5 a b c u d e f v)) (A1 := (pA6 a b c u d e f v g h)) (R := pR6 a b c u d e f v) hM_read hok hck hR hI hB hθ (fun i c h => pnod n0 ?_) (fun i c h => pnod n0 ?_) (fun i c h => ?_)).mono (Nat.le_trans (by decide : 60 ≤ 300) (Nat.le_add_right _ _)) (Nat.le_refl _) (Nat.le_refl _) (Nat.le_refl _) (Nat.le_refl _)
  · have h := sx_lk_in h
    simp only [pl6, List.mem_append] at h
    rcases h with h | h <;> simp only [pA5, List.mem_append, h, true_or, or_true]
  · have h := sx_lk_in h
    simp only [pR6, List.mem_append] at h
    rcases h with h | h | h | h | h | h | h <;> simp only [pA5, List.mem_append, h, true_or, or_true]
  · have h := sx_lk_in h
    simp only [pA6, List.mem_append] at h
    rcases h with h | h | h | h | h | h | h | h | h | h
    · exact (.inl (pnod k9 (by simp only [pm6, List.mem_append, h, true_or, or_true])))
    · exact (.inl (pnod k9 (by simp only [pm6, List.mem_append, h, true_or, or_true])))
    · exact (.inl (pnod k9 (by simp only [pm6, List.mem_append, h, true_or, or_true])))
    · exact (.inr (pnod k8 (by simp only [pR6, List.mem_append, h, true_or, or_true])))
    · exact (.inr (pnod k8 (by simp only [pR6, List.mem_append, h, true_or, or_true])))
    · exact (.inr (pnod k8 (by simp only [pR6, List.mem_append, h, true_or, or_true])))
    · exact (.inr (pnod k8 (by simp only [pR6, List.mem_append, h, true_or, or_true])))
    · exact (.inr (pnod k8 (by simp only [pR6, List.mem_append, h, true_or, or_true])))
    · exact (.inr (pnod k8 (by simp only [pR6, List.mem_append, h, true_or, or_true])))
    · exact (.inr (pnod k8 (by simp only [pR6, List.mem_append, h, true_or, or_true])))
def pR7 (a b c u d e f v g h : Bool) : List (Nat × sx_C) := pbar (Nat.add 10 (Nat.add (k3 a b c) (k3 d e f))) g h none ++ (ptoc 0 a none (pI (pnI (Nat.add 6 (Nat.add (k3 a b c) (bN d))))) ++ (ptoc (Nat.add 5 (k3 a b c)) d none pN ++ (pops (Nat.add 5 (k3 a b c)) 32 33 34 d e f none ++ (pops 0 37 11 12 a b c none ++ (pRest)))))
theorem pr7_00 : ∀ b c e f g h x : Bool, ([0, 1, 2] : List Nat).all (fun o => pokR (pu7 (k3 false b c) false (k3 false e f) o g h x) (pR7 false b c false false e f false g h) && pokI (pil (Nat.add 13 (Nat.add (k3 false b c) (Nat.add (k3 false e f) (k2' g h)))) (pu7 (k3 false b c) false (k3 false e f) o g h x)) (pu7 (k3 false b c) false (k3 false e f) o g h x) (pR7 false b c false false e f false g h)) = true := by decide +kernel
theorem pr7_01 : ∀ b c e f g h x : Bool, ([0, 1, 2] : List Nat).all (fun o => pokR (pu7 (k3 false b c) false (k3 true e f) o g h x) (pR7 false b c false true e f false g h) && pokI (pil (Nat.add 13 (Nat.add (k3 false b c) (Nat.add (k3 true e f) (k2' g h)))) (pu7 (k3 false b c) false (k3 true e f) o g h x)) (pu7 (k3 false b c) false (k3 true e f) o g h x) (pR7 false b c false true e f false g h)) = true := by decide +kernel
theorem pr7_10 : ∀ b c e f g h x : Bool, ([0, 1, 2] : List Nat).all (fun o => pokR (pu7 (k3 true b c) true (k3 false e f) o g h x) (pR7 true b c false false e f false g h) && pokI (pil (Nat.add 13 (Nat.add (k3 true b c) (Nat.add (k3 false e f) (k2' g h)))) (pu7 (k3 true b c) true (k3 false e f) o g h x)) (pu7 (k3 true b c) true (k3 false e f) o g h x) (pR7 true b c false false e f false g h)) = true := by decide +kernel
theorem pr7_11 : ∀ b c e f g h x : Bool, ([0, 1, 2] : List Nat).all (fun o => pokR (pu7 (k3 true b c) true (k3 true e f) o g h x) (pR7 true b c false true e f false g h) && pokI (pil (Nat.add 13 (Nat.add (k3 true b c) (Nat.add (k3 true e f) (k2' g h)))) (pu7 (k3 true b c) true (k3 true e f) o g h x)) (pu7 (k3 true b c) true (k3 true e f) o g h x) (pR7 true b c false true e f false g h)) = true := by decide +kernel
theorem pr7 : ∀ a b c d e f g h x : Bool, ([0, 1, 2] : List Nat).all (fun o => pokR (pu7 (k3 a b c) a (k3 d e f) o g h x) (pR7 a b c false d e f false g h) && pokI (pil (Nat.add 13 (Nat.add (k3 a b c) (Nat.add (k3 d e f) (k2' g h)))) (pu7 (k3 a b c) a (k3 d e f) o g h x)) (pu7 (k3 a b c) a (k3 d e f) o g h x) (pR7 a b c false d e f false g h)) = true := by
  intro a b c d e f g h x
  cases a <;> cases d
  · exact pr7_00 b c e f g h x
  · exact pr7_01 b c e f g h x
  · exact pr7_10 b c e f g h x
  · exact pr7_11 b c e f g h x
theorem pw7 (a b c u d e f v g h t : Bool) {z : Nat → Nat} {σ : Nat → Int} (hB : sx_okB σ (pu7 (k3 a b c) a (k3 d e f) (Nat.add (bN u) (bN v)) g h (nz (Nat.add (Nat.add (Nat.add (k3 a b c) (k3 d e f)) (k2' g h)) (Nat.add (Nat.add (bN u) (bN v)) (bN t))))).1) (hθ : ∀ p ∈ pθ7 (k3 a b c) a (k3 d e f) (Nat.add (bN u) (bN v)) g h (nz (Nat.add (Nat.add (Nat.add (k3 a b c) (k3 d e f)) (k2' g h)) (Nat.add (Nat.add (bN u) (bN v)) (bN t)))), sx_ev σ p.2 = σ p.1) : gx_H 60 sm_X7_read 16 600 0 0 z σ ((pu7 (k3 a b c) a (k3 d e f) (Nat.add (bN u) (bN v)) g h (nz (Nat.add (Nat.add (Nat.add (k3 a b c) (k3 d e f)) (k2' g h)) (Nat.add (Nat.add (bN u) (bN v)) (bN t))))).2.2.1.1, (pu7 (k3 a b c) a (k3 d e f) (Nat.add (bN u) (bN v)) g h (nz (Nat.add (Nat.add (Nat.add (k3 a b c) (k3 d e f)) (k2' g h)) (Nat.add (Nat.add (bN u) (bN v)) (bN t))))).2.2.1.2.1, (pu7 (k3 a b c) a (k3 d e f) (Nat.add (bN u) (bN v)) g h (nz (Nat.add (Nat.add (Nat.add (k3 a b c) (k3 d e f)) (k2' g h)) (Nat.add (Nat.add (bN u) (bN v)) (bN t))))).2.2.1.2.2.1, gx_mk (pA6 a b c u d e f v g h), 400) (sx_σi (pu7 (k3 a b c) a (k3 d e f) (Nat.add (bN u) (bN v)) g h (nz (Nat.add (Nat.add (Nat.add (k3 a b c) (k3 d e f)) (k2' g h)) (Nat.add (Nat.add (bN u) (bN v)) (bN t))))).2.2.2.2.2.2.2.1 σ) ((pu7 (k3 a b c) a (k3 d e f) (Nat.add (bN u) (bN v)) g h (nz (Nat.add (Nat.add (Nat.add (k3 a b c) (k3 d e f)) (k2' g h)) (Nat.add (Nat.add (bN u) (bN v)) (bN t))))).2.2.2.2.2.2.2.2.1, (pu7 (k3 a b c) a (k3 d e f) (Nat.add (bN u) (bN v)) g h (nz (Nat.add (Nat.add (Nat.add (k3 a b c) (k3 d e f)) (k2' g h)) (Nat.add (Nat.add (bN u) (bN v)) (bN t))))).2.2.2.2.2.2.2.2.2.1, (pu7 (k3 a b c) a (k3 d e f) (Nat.add (bN u) (bN v)) g h (nz (Nat.add (Nat.add (Nat.add (k3 a b c) (k3 d e f)) (k2' g h)) (Nat.add (Nat.add (bN u) (bN v)) (bN t))))).2.2.2.2.2.2.2.2.2.2.1, gx_mk (pA7 a b c u d e f v g h), 400) := by
  have h9 : pv7 (k3 a b c) a (k3 d e f) (Nat.add (bN u) (bN v)) g h (nz (Nat.add (Nat.add (Nat.add (k3 a b c) (k3 d e f)) (k2' g h)) (Nat.add (Nat.add (bN u) (bN v)) (bN t)))) = true := ph7 a b c d e f g h u v t
  unfold pv7 at h9
  rw [Bool.and_eq_true, Bool.and_eq_true] at h9
  obtain ⟨hok, hck, k9⟩ := h9
  have h8 : (pokR (pu7 (k3 a b c) a (k3 d e f) (Nat.add (bN u) (bN v)) g h (nz (Nat.add (Nat.add (Nat.add (k3 a b c) (k3 d e f)) (k2' g h)) (Nat.add (Nat.add (bN u) (bN v)) (bN t))))) (pR7 a b c u d e f v g h) && pokI (pil (Nat.add 13 (Nat.add (k3 a b c) (Nat.add (k3 d e f) (k2' g h)))) (pu7 (k3 a b c) a (k3 d e f) (Nat.add (bN u) (bN v)) g h (nz (Nat.add (Nat.add (Nat.add (k3 a b c) (k3 d e f)) (k2' g h)) (Nat.add (Nat.add (bN u) (bN v)) (bN t)))))) (pu7 (k3 a b c) a (k3 d e f) (Nat.add (bN u) (bN v)) g h (nz (Nat.add (Nat.add (Nat.add (k3 a b c) (k3 d e f)) (k2' g h)) (Nat.add (Nat.add (bN u) (bN v)) (bN t))))) (pR7 a b c u d e f v g h)) = true := List.all_eq_true.mp (pr7 a b c d e f g h (nz (Nat.add (Nat.add (Nat.add (k3 a b c) (k3 d e f)) (k2' g h)) (Nat.add (Nat.add (bN u) (bN v)) (bN t))))) _ (q3 (oo_lt u v))
  rw [Bool.and_eq_true] at h8
  obtain ⟨hR, hI⟩ := h8
  have n0 := pnA6 a b c u d e f v g h
  have k8 : sx_nod ((pR7 a b c u d e f v g h).map Prod.fst) = true := sx_nod_sub (List.Sublist.map Prod.fst (show List.Sublist (pR7 a b c u d e f v g h) (pA6 a b c u d e f v g h) from by
    unfold pR7 pA6
    exact List.sublist_append_of_sublist_right (List.sublist_append_of_sublist_right (List.Sublist.append (List.Sublist.refl _) (List.sublist_append_of_sublist_right (List.sublist_append_of_sublist_right (List.Sublist.append (List.Sublist.refl _) (List.Sublist.append (List.Sublist.refl _) (List.Sublist.append (List.Sublist.refl _) (List.Sublist.append (List.Sublist.refl _) (List.Sublist.refl _))))))))))) n0
  refine (pM (θ0 := pθ7 (k3 a b c) a (k3 d e f) (Nat.add (bN u) (bN v)) g h (nz (Nat.add (Nat.add (Nat.add (k3 a b c) (k3 d e f)) (k2' g h)) (Nat.add (Nat.add (bN u) (bN v)) (bN t))))) (l0 := pl7 (k3 a b c) a (k3 d e f) (Nat.add (bN u) (bN v)) g h (nz (Nat.add (Nat.add (Nat.add (k3 a b c) (k3 d e f)) (k2' g h)) (Nat.add (Nat.add (bN u) (bN v)) (bN t))))) (l1 := pm7 (k3 a b c) a (k3 d e f) (Nat.add (bN u) (bN v)) g h (nz (Nat.add (Nat.add (Nat.add (k3 a b c) (k3 d e f)) (k2' g h)) (Nat.add (Nat.add (bN u) (bN v)) (bN t))))) (A0 := (pA6 a b c u d e f v g h)) (A1 := (pA7 a b c u d e f v g h)) (R := pR7 a b c u d e f v g h) hM_read hok hck hR hI hB hθ (fun i c h => pnod n0 ?_) (fun i c h => pnod n0 ?_) (fun i c h => ?_)).mono (Nat.le_trans (by decide : 60 ≤ 300) (Nat.le_add_right _ _)) (Nat.le_refl _) (Nat.le_refl _) (Nat.le_refl _) (Nat.le_refl _)
  · have h := sx_lk_in h
    simp only [pl7, List.mem_append] at h
    rcases h with h | h | h | h <;> simp only [pA6, List.mem_append, h, true_or, or_true]
  · have h := sx_lk_in h
    simp only [pR7, List.mem_append] at h
    rcases h with h | h | h | h | h | h <;> simp only [pA6, List.mem_append, h, true_or, or_true]
  · have h := sx_lk_in h
    simp only [pA7, List.mem_append] at h
    rcases h with h | h | h | h | h | h | h | h | h | h
    · exact (.inl (pnod k9 (by simp only [pm7, List.mem_append, h, true_or, or_true])))
    · exact (.inl (pnod k9 (by simp only [pm7, List.mem_append, h, true_or, or_true])))
    · exact (.inl (pnod k9 (by simp only [pm7, List.mem_append, h, true_or, or_true])))
    · exact (.inl (pnod k9 (by simp only [pm7, List.mem_append, h, true_or, or_true])))
    · exact (.inr (pnod k8 (by simp only [pR7, List.mem_append, h, true_or, or_true])))
    · exact (.inr (pnod k8 (by simp only [pR7, List.mem_append, h, true_or, or_true])))
    · exact (.inr (pnod k8 (by simp only [pR7, List.mem_append, h, true_or, or_true])))
    · exact (.inr (pnod k8 (by simp only [pR7, List.mem_append, h, true_or, or_true])))
    · exact (.inr (pnod k8 (by simp only [pR7, List.mem_append, h, true_or, or_true])))
    · exact (.inr (pnod k8 (by simp only [pR7, List.mem_append, h, true_or, or_true])))
def pR8 (a b c u d e f v g h : Bool) : List (Nat × sx_C) := po2 (k3 a b c) (k3 d e f) none none pN 2 ++ (po1 (k3 a b c) none (pnI (Nat.add 1 (bN a))) none (pI (pnI (Nat.add 11 (Nat.add (k3 a b c) (Nat.add (k3 d e f) (bN g)))))) 2 ++ (pbar (Nat.add 10 (Nat.add (k3 a b c) (k3 d e f))) g h none ++ (ptoc 0 a none (pI (pnI (Nat.add 6 (Nat.add (k3 a b c) (bN d))))) ++ (ptoc (Nat.add 5 (k3 a b c)) d none pN ++ (pops (Nat.add 5 (k3 a b c)) 32 33 34 d e f none ++ (pops 0 37 11 12 a b c none ++ (pRest)))))))
theorem pr8_00 : ∀ b c e f g h x : Bool, ([0, 1, 2] : List Nat).all (fun o => pokR (pu8 (Nat.add (k3 false b c) (k3 false e f)) (k2' g h) o x) (pR8 false b c false false e f false g h) && pokI (pil (Nat.add 13 (Nat.add (Nat.add (k3 false b c) (k3 false e f)) (k2' g h))) (pu8 (Nat.add (k3 false b c) (k3 false e f)) (k2' g h) o x)) (pu8 (Nat.add (k3 false b c) (k3 false e f)) (k2' g h) o x) (pR8 false b c false false e f false g h)) = true := by decide +kernel
theorem pr8_01 : ∀ b c e f g h x : Bool, ([0, 1, 2] : List Nat).all (fun o => pokR (pu8 (Nat.add (k3 false b c) (k3 true e f)) (k2' g h) o x) (pR8 false b c false true e f false g h) && pokI (pil (Nat.add 13 (Nat.add (Nat.add (k3 false b c) (k3 true e f)) (k2' g h))) (pu8 (Nat.add (k3 false b c) (k3 true e f)) (k2' g h) o x)) (pu8 (Nat.add (k3 false b c) (k3 true e f)) (k2' g h) o x) (pR8 false b c false true e f false g h)) = true := by decide +kernel
theorem pr8_10 : ∀ b c e f g h x : Bool, ([0, 1, 2] : List Nat).all (fun o => pokR (pu8 (Nat.add (k3 true b c) (k3 false e f)) (k2' g h) o x) (pR8 true b c false false e f false g h) && pokI (pil (Nat.add 13 (Nat.add (Nat.add (k3 true b c) (k3 false e f)) (k2' g h))) (pu8 (Nat.add (k3 true b c) (k3 false e f)) (k2' g h) o x)) (pu8 (Nat.add (k3 true b c) (k3 false e f)) (k2' g h) o x) (pR8 true b c false false e f false g h)) = true := by decide +kernel
theorem pr8_11 : ∀ b c e f g h x : Bool, ([0, 1, 2] : List Nat).all (fun o => pokR (pu8 (Nat.add (k3 true b c) (k3 true e f)) (k2' g h) o x) (pR8 true b c false true e f false g h) && pokI (pil (Nat.add 13 (Nat.add (Nat.add (k3 true b c) (k3 true e f)) (k2' g h))) (pu8 (Nat.add (k3 true b c) (k3 true e f)) (k2' g h) o x)) (pu8 (Nat.add (k3 true b c) (k3 true e f)) (k2' g h) o x) (pR8 true b c false true e f false g h)) = true := by decide +kernel
theorem pr8 : ∀ a b c d e f g h x : Bool, ([0, 1, 2] : List Nat).all (fun o => pokR (pu8 (Nat.add (k3 a b c) (k3 d e f)) (k2' g h) o x) (pR8 a b c false d e f false g h) && pokI (pil (Nat.add 13 (Nat.add (Nat.add (k3 a b c) (k3 d e f)) (k2' g h))) (pu8 (Nat.add (k3 a b c) (k3 d e f)) (k2' g h) o x)) (pu8 (Nat.add (k3 a b c) (k3 d e f)) (k2' g h) o x) (pR8 a b c false d e f false g h)) = true := by
  intro a b c d e f g h x
  cases a <;> cases d
  · exact pr8_00 b c e f g h x
  · exact pr8_01 b c e f g h x
  · exact pr8_10 b c e f g h x
  · exact pr8_11 b c e f g h x
theorem pw8 (a b c u d e f v g h t : Bool) {z : Nat → Nat} {σ : Nat → Int} (hB : sx_okB σ (pu8 (Nat.add (k3 a b c) (k3 d e f)) (k2' g h) (Nat.add (bN u) (bN v)) (nz (Nat.add (Nat.add (Nat.add (k3 a b c) (k3 d e f)) (k2' g h)) (Nat.add (Nat.add (bN u) (bN v)) (bN t))))).1) (hθ : ∀ p ∈ pθ8 (Nat.add (k3 a b c) (k3 d e f)) (k2' g h) (Nat.add (bN u) (bN v)) (nz (Nat.add (Nat.add (Nat.add (k3 a b c) (k3 d e f)) (k2' g h)) (Nat.add (Nat.add (bN u) (bN v)) (bN t)))), sx_ev σ p.2 = σ p.1) : gx_H 60 sm_X7_read 16 600 2 36 z σ ((pu8 (Nat.add (k3 a b c) (k3 d e f)) (k2' g h) (Nat.add (bN u) (bN v)) (nz (Nat.add (Nat.add (Nat.add (k3 a b c) (k3 d e f)) (k2' g h)) (Nat.add (Nat.add (bN u) (bN v)) (bN t))))).2.2.1.1, (pu8 (Nat.add (k3 a b c) (k3 d e f)) (k2' g h) (Nat.add (bN u) (bN v)) (nz (Nat.add (Nat.add (Nat.add (k3 a b c) (k3 d e f)) (k2' g h)) (Nat.add (Nat.add (bN u) (bN v)) (bN t))))).2.2.1.2.1, (pu8 (Nat.add (k3 a b c) (k3 d e f)) (k2' g h) (Nat.add (bN u) (bN v)) (nz (Nat.add (Nat.add (Nat.add (k3 a b c) (k3 d e f)) (k2' g h)) (Nat.add (Nat.add (bN u) (bN v)) (bN t))))).2.2.1.2.2.1, gx_mk (pA7 a b c u d e f v g h), 400) (sx_σi (pu8 (Nat.add (k3 a b c) (k3 d e f)) (k2' g h) (Nat.add (bN u) (bN v)) (nz (Nat.add (Nat.add (Nat.add (k3 a b c) (k3 d e f)) (k2' g h)) (Nat.add (Nat.add (bN u) (bN v)) (bN t))))).2.2.2.2.2.2.2.1 σ) ((pu8 (Nat.add (k3 a b c) (k3 d e f)) (k2' g h) (Nat.add (bN u) (bN v)) (nz (Nat.add (Nat.add (Nat.add (k3 a b c) (k3 d e f)) (k2' g h)) (Nat.add (Nat.add (bN u) (bN v)) (bN t))))).2.2.2.2.2.2.2.2.1, (pu8 (Nat.add (k3 a b c) (k3 d e f)) (k2' g h) (Nat.add (bN u) (bN v)) (nz (Nat.add (Nat.add (Nat.add (k3 a b c) (k3 d e f)) (k2' g h)) (Nat.add (Nat.add (bN u) (bN v)) (bN t))))).2.2.2.2.2.2.2.2.2.1, (pu8 (Nat.add (k3 a b c) (k3 d e f)) (k2' g h) (Nat.add (bN u) (bN v)) (nz (Nat.add (Nat.add (Nat.add (k3 a b c) (k3 d e f)) (k2' g h)) (Nat.add (Nat.add (bN u) (bN v)) (bN t))))).2.2.2.2.2.2.2.2.2.2.1, gx_mk (pA8 a b c u d e f v g h), 400) := by
  have h9 : pv8 (Nat.add (k3 a b c) (k3 d e f)) (k2' g h) (Nat.add (bN u) (bN v)) (nz (Nat.add (Nat.add (Nat.add (k3 a b c) (k3 d e f)) (k2' g h)) (Nat.add (Nat.add (bN u) (bN v)) (bN t)))) = true := ph8 a b c d e f g h u v t
  unfold pv8 at h9
  rw [Bool.and_eq_true, Bool.and_eq_true] at h9
  obtain ⟨hok, hck, k9⟩ := h9
  have h8 : (pokR (pu8 (Nat.add (k3 a b c) (k3 d e f)) (k2' g h) (Nat.add (bN u) (bN v)) (nz (Nat.add (Nat.add (Nat.add (k3 a b c) (k3 d e f)) (k2' g h)) (Nat.add (Nat.add (bN u) (bN v)) (bN t))))) (pR8 a b c u d e f v g h) && pokI (pil (Nat.add 13 (Nat.add (Nat.add (k3 a b c) (k3 d e f)) (k2' g h))) (pu8 (Nat.add (k3 a b c) (k3 d e f)) (k2' g h) (Nat.add (bN u) (bN v)) (nz (Nat.add (Nat.add (Nat.add (k3 a b c) (k3 d e f)) (k2' g h)) (Nat.add (Nat.add (bN u) (bN v)) (bN t)))))) (pu8 (Nat.add (k3 a b c) (k3 d e f)) (k2' g h) (Nat.add (bN u) (bN v)) (nz (Nat.add (Nat.add (Nat.add (k3 a b c) (k3 d e f)) (k2' g h)) (Nat.add (Nat.add (bN u) (bN v)) (bN t))))) (pR8 a b c u d e f v g h)) = true := List.all_eq_true.mp (pr8 a b c d e f g h (nz (Nat.add (Nat.add (Nat.add (k3 a b c) (k3 d e f)) (k2' g h)) (Nat.add (Nat.add (bN u) (bN v)) (bN t))))) _ (q3 (oo_lt u v))
  rw [Bool.and_eq_true] at h8
  obtain ⟨hR, hI⟩ := h8
  have n0 := pnA7 a b c u d e f v g h
  have k8 : sx_nod ((pR8 a b c u d e f v g h).map Prod.fst) = true := sx_nod_sub (List.Sublist.map Prod.fst (show List.Sublist (pR8 a b c u d e f v g h) (pA7 a b c u d e f v g h) from by
    unfold pR8 pA7
    exact List.sublist_append_of_sublist_right (List.sublist_append_of_sublist_right (List.Sublist.append (List.Sublist.refl _) (List.Sublist.append (List.Sublist.refl _) (List.Sublist.append (List.Sublist.refl _) (List.Sublist.append (List.Sublist.refl _) (List.Sublist.append (List.Sublist.refl _) (List.Sublist.append (List.Sublist.refl _) (List.Sublist.append (List.Sublist.refl _) (List.Sublist.refl _))))))))))) n0
  refine (pM (θ0 := pθ8 (Nat.add (k3 a b c) (k3 d e f)) (k2' g h) (Nat.add (bN u) (bN v)) (nz (Nat.add (Nat.add (Nat.add (k3 a b c) (k3 d e f)) (k2' g h)) (Nat.add (Nat.add (bN u) (bN v)) (bN t))))) (l0 := pl8 (Nat.add (k3 a b c) (k3 d e f)) (k2' g h) (Nat.add (bN u) (bN v)) (nz (Nat.add (Nat.add (Nat.add (k3 a b c) (k3 d e f)) (k2' g h)) (Nat.add (Nat.add (bN u) (bN v)) (bN t))))) (l1 := pm8 (Nat.add (k3 a b c) (k3 d e f)) (k2' g h) (Nat.add (bN u) (bN v)) (nz (Nat.add (Nat.add (Nat.add (k3 a b c) (k3 d e f)) (k2' g h)) (Nat.add (Nat.add (bN u) (bN v)) (bN t))))) (A0 := (pA7 a b c u d e f v g h)) (A1 := (pA8 a b c u d e f v g h)) (R := pR8 a b c u d e f v g h) hM_read hok hck hR hI hB hθ (fun i c h => pnod n0 ?_) (fun i c h => pnod n0 ?_) (fun i c h => ?_)).mono (Nat.le_trans (by decide : 60 ≤ 300) (Nat.le_add_right _ _)) (Nat.le_refl _) (Nat.le_refl _) (Nat.le_refl _) (Nat.le_refl _)
  · have h := sx_lk_in h
    simp only [pl8, List.mem_append] at h
    rcases h with h | h <;> simp only [pA7, List.mem_append, h, true_or, or_true]
  · have h := sx_lk_in h
    simp only [pR8, List.mem_append] at h
    rcases h with h | h | h | h | h | h | h | h <;> simp only [pA7, List.mem_append, h, true_or, or_true]
  · have h := sx_lk_in h
    simp only [pA8, List.mem_append] at h
    rcases h with h | h | h | h | h | h | h | h | h | h | h
    · exact (.inl (pnod k9 (by simp only [pm8, List.mem_append, h, true_or, or_true])))
    · exact (.inl (pnod k9 (by simp only [pm8, List.mem_append, h, true_or, or_true])))
    · exact (.inl (pnod k9 (by simp only [pm8, List.mem_append, h, true_or, or_true])))
    · exact (.inr (pnod k8 (by simp only [pR8, List.mem_append, h, true_or, or_true])))
    · exact (.inr (pnod k8 (by simp only [pR8, List.mem_append, h, true_or, or_true])))
    · exact (.inr (pnod k8 (by simp only [pR8, List.mem_append, h, true_or, or_true])))
    · exact (.inr (pnod k8 (by simp only [pR8, List.mem_append, h, true_or, or_true])))
    · exact (.inr (pnod k8 (by simp only [pR8, List.mem_append, h, true_or, or_true])))
    · exact (.inr (pnod k8 (by simp only [pR8, List.mem_append, h, true_or, or_true])))
    · exact (.inr (pnod k8 (by simp only [pR8, List.mem_append, h, true_or, or_true])))
    · exact (.inr (pnod k8 (by simp only [pR8, List.mem_append, h, true_or, or_true])))
def pR9 (a b c u d e f v g h : Bool) : List (Nat × sx_C) := pbs (Nat.add (k3 a b c) (k3 d e f)) (k2' g h) none (some (pI (pnI (Nat.add 9 (Nat.add (k3 a b c) (k3 d e f)))))) 1 ++ (po2 (k3 a b c) (k3 d e f) none none pN 2 ++ (po1 (k3 a b c) none (pnI (Nat.add 1 (bN a))) none (pI (pnI (Nat.add 11 (Nat.add (k3 a b c) (Nat.add (k3 d e f) (bN g)))))) 2 ++ (pbar (Nat.add 10 (Nat.add (k3 a b c) (k3 d e f))) g h none ++ (ptoc 0 a none (pI (pnI (Nat.add 6 (Nat.add (k3 a b c) (bN d))))) ++ (ptoc (Nat.add 5 (k3 a b c)) d none pN ++ (pops (Nat.add 5 (k3 a b c)) 32 33 34 d e f none ++ (pops 0 37 11 12 a b c none ++ (pRest))))))))
theorem pr9_00 : ∀ b c e f g h t : Bool, ([0, 1, 2] : List Nat).all (fun o => pokR (pu9 (Nat.add (Nat.add (k3 false b c) (k3 false e f)) (k2' g h)) o t) (pR9 false b c false false e f false g h) && pokI (pil (Nat.add 14 (Nat.add (Nat.add (k3 false b c) (k3 false e f)) (k2' g h))) (pu9 (Nat.add (Nat.add (k3 false b c) (k3 false e f)) (k2' g h)) o t)) (pu9 (Nat.add (Nat.add (k3 false b c) (k3 false e f)) (k2' g h)) o t) (pR9 false b c false false e f false g h)) = true := by decide +kernel
theorem pr9_01 : ∀ b c e f g h t : Bool, ([0, 1, 2] : List Nat).all (fun o => pokR (pu9 (Nat.add (Nat.add (k3 false b c) (k3 true e f)) (k2' g h)) o t) (pR9 false b c false true e f false g h) && pokI (pil (Nat.add 14 (Nat.add (Nat.add (k3 false b c) (k3 true e f)) (k2' g h))) (pu9 (Nat.add (Nat.add (k3 false b c) (k3 true e f)) (k2' g h)) o t)) (pu9 (Nat.add (Nat.add (k3 false b c) (k3 true e f)) (k2' g h)) o t) (pR9 false b c false true e f false g h)) = true := by decide +kernel
theorem pr9_10 : ∀ b c e f g h t : Bool, ([0, 1, 2] : List Nat).all (fun o => pokR (pu9 (Nat.add (Nat.add (k3 true b c) (k3 false e f)) (k2' g h)) o t) (pR9 true b c false false e f false g h) && pokI (pil (Nat.add 14 (Nat.add (Nat.add (k3 true b c) (k3 false e f)) (k2' g h))) (pu9 (Nat.add (Nat.add (k3 true b c) (k3 false e f)) (k2' g h)) o t)) (pu9 (Nat.add (Nat.add (k3 true b c) (k3 false e f)) (k2' g h)) o t) (pR9 true b c false false e f false g h)) = true := by decide +kernel
theorem pr9_11 : ∀ b c e f g h t : Bool, ([0, 1, 2] : List Nat).all (fun o => pokR (pu9 (Nat.add (Nat.add (k3 true b c) (k3 true e f)) (k2' g h)) o t) (pR9 true b c false true e f false g h) && pokI (pil (Nat.add 14 (Nat.add (Nat.add (k3 true b c) (k3 true e f)) (k2' g h))) (pu9 (Nat.add (Nat.add (k3 true b c) (k3 true e f)) (k2' g h)) o t)) (pu9 (Nat.add (Nat.add (k3 true b c) (k3 true e f)) (k2' g h)) o t) (pR9 true b c false true e f false g h)) = true := by decide +kernel
theorem pr9 : ∀ a b c d e f g h t : Bool, ([0, 1, 2] : List Nat).all (fun o => pokR (pu9 (Nat.add (Nat.add (k3 a b c) (k3 d e f)) (k2' g h)) o t) (pR9 a b c false d e f false g h) && pokI (pil (Nat.add 14 (Nat.add (Nat.add (k3 a b c) (k3 d e f)) (k2' g h))) (pu9 (Nat.add (Nat.add (k3 a b c) (k3 d e f)) (k2' g h)) o t)) (pu9 (Nat.add (Nat.add (k3 a b c) (k3 d e f)) (k2' g h)) o t) (pR9 a b c false d e f false g h)) = true := by
  intro a b c d e f g h t
  cases a <;> cases d
  · exact pr9_00 b c e f g h t
  · exact pr9_01 b c e f g h t
  · exact pr9_10 b c e f g h t
  · exact pr9_11 b c e f g h t
theorem pw9 (a b c u d e f v g h t : Bool) {z : Nat → Nat} {σ : Nat → Int} (hB : sx_okB σ (pu9 (Nat.add (Nat.add (k3 a b c) (k3 d e f)) (k2' g h)) (Nat.add (bN u) (bN v)) t).1) (hθ : ∀ p ∈ pθ9 (Nat.add (Nat.add (k3 a b c) (k3 d e f)) (k2' g h)) (Nat.add (bN u) (bN v)) t, sx_ev σ p.2 = σ p.1) : gx_H 60 sm_X7_read 16 600 3 58 z σ ((pu9 (Nat.add (Nat.add (k3 a b c) (k3 d e f)) (k2' g h)) (Nat.add (bN u) (bN v)) t).2.2.1.1, (pu9 (Nat.add (Nat.add (k3 a b c) (k3 d e f)) (k2' g h)) (Nat.add (bN u) (bN v)) t).2.2.1.2.1, (pu9 (Nat.add (Nat.add (k3 a b c) (k3 d e f)) (k2' g h)) (Nat.add (bN u) (bN v)) t).2.2.1.2.2.1, gx_mk (pA8 a b c u d e f v g h), 400) (sx_σi (pu9 (Nat.add (Nat.add (k3 a b c) (k3 d e f)) (k2' g h)) (Nat.add (bN u) (bN v)) t).2.2.2.2.2.2.2.1 σ) ((pu9 (Nat.add (Nat.add (k3 a b c) (k3 d e f)) (k2' g h)) (Nat.add (bN u) (bN v)) t).2.2.2.2.2.2.2.2.1, (pu9 (Nat.add (Nat.add (k3 a b c) (k3 d e f)) (k2' g h)) (Nat.add (bN u) (bN v)) t).2.2.2.2.2.2.2.2.2.1, (pu9 (Nat.add (Nat.add (k3 a b c) (k3 d e f)) (k2' g h)) (Nat.add (bN u) (bN v)) t).2.2.2.2.2.2.2.2.2.2.1, gx_mk (pA9 a b c d e f g h), 400) := by
  have h9 : pv9 (Nat.add (Nat.add (k3 a b c) (k3 d e f)) (k2' g h)) (Nat.add (bN u) (bN v)) t = true := ph9 _ _ (kg_lt a b c d e f g h) (oo_lt u v) t
  unfold pv9 at h9
  rw [Bool.and_eq_true, Bool.and_eq_true] at h9
  obtain ⟨hok, hck, k9⟩ := h9
  have h8 : (pokR (pu9 (Nat.add (Nat.add (k3 a b c) (k3 d e f)) (k2' g h)) (Nat.add (bN u) (bN v)) t) (pR9 a b c u d e f v g h) && pokI (pil (Nat.add 14 (Nat.add (Nat.add (k3 a b c) (k3 d e f)) (k2' g h))) (pu9 (Nat.add (Nat.add (k3 a b c) (k3 d e f)) (k2' g h)) (Nat.add (bN u) (bN v)) t)) (pu9 (Nat.add (Nat.add (k3 a b c) (k3 d e f)) (k2' g h)) (Nat.add (bN u) (bN v)) t) (pR9 a b c u d e f v g h)) = true := List.all_eq_true.mp (pr9 a b c d e f g h t) _ (q3 (oo_lt u v))
  rw [Bool.and_eq_true] at h8
  obtain ⟨hR, hI⟩ := h8
  have n0 := pnA8 a b c u d e f v g h
  have k8 : sx_nod ((pR9 a b c u d e f v g h).map Prod.fst) = true := sx_nod_sub (List.Sublist.map Prod.fst (show List.Sublist (pR9 a b c u d e f v g h) (pA8 a b c u d e f v g h) from by
    unfold pR9 pA8
    exact List.sublist_append_of_sublist_right (List.sublist_append_of_sublist_right (List.Sublist.append (List.Sublist.refl _) (List.Sublist.append (List.Sublist.refl _) (List.Sublist.append (List.Sublist.refl _) (List.Sublist.append (List.Sublist.refl _) (List.Sublist.append (List.Sublist.refl _) (List.Sublist.append (List.Sublist.refl _) (List.Sublist.append (List.Sublist.refl _) (List.Sublist.append (List.Sublist.refl _) (List.Sublist.refl _)))))))))))) n0
  refine (pM (θ0 := pθ9 (Nat.add (Nat.add (k3 a b c) (k3 d e f)) (k2' g h)) (Nat.add (bN u) (bN v)) t) (l0 := pl9 (Nat.add (Nat.add (k3 a b c) (k3 d e f)) (k2' g h)) (Nat.add (bN u) (bN v)) t) (l1 := pm9 (Nat.add (Nat.add (k3 a b c) (k3 d e f)) (k2' g h)) (Nat.add (bN u) (bN v)) t) (A0 := (pA8 a b c u d e f v g h)) (A1 := (pA9 a b c d e f g h)) (R := pR9 a b c u d e f v g h) hM_read hok hck hR hI hB hθ (fun i c h => pnod n0 ?_) (fun i c h => pnod n0 ?_) (fun i c h => ?_)).mono (Nat.le_trans (by decide : 60 ≤ 300) (Nat.le_add_right _ _)) (Nat.le_refl _) (Nat.le_refl _) (Nat.le_refl _) (Nat.le_refl _)
  · have h := sx_lk_in h
    simp only [pl9, List.mem_append] at h
    rcases h with h | h <;> simp only [pA8, List.mem_append, h, true_or, or_true]
  · have h := sx_lk_in h
    simp only [pR9, List.mem_append] at h
    rcases h with h | h | h | h | h | h | h | h | h <;> simp only [pA8, List.mem_append, h, true_or, or_true]
  · have h := sx_lk_in h
    simp only [pA9, List.mem_append] at h
    rcases h with h | h | h | h | h | h | h | h | h | h | h | h
    · exact (.inl (pnod k9 (by simp only [pm9, List.mem_append, h, true_or, or_true])))
    · exact (.inl (pnod k9 (by simp only [pm9, List.mem_append, h, true_or, or_true])))
    · exact (.inl (pnod k9 (by simp only [pm9, List.mem_append, h, true_or, or_true])))
    · exact (.inr (pnod k8 (by simp only [pR9, List.mem_append, h, true_or, or_true])))
    · exact (.inr (pnod k8 (by simp only [pR9, List.mem_append, h, true_or, or_true])))
    · exact (.inr (pnod k8 (by simp only [pR9, List.mem_append, h, true_or, or_true])))
    · exact (.inr (pnod k8 (by simp only [pR9, List.mem_append, h, true_or, or_true])))
    · exact (.inr (pnod k8 (by simp only [pR9, List.mem_append, h, true_or, or_true])))
    · exact (.inr (pnod k8 (by simp only [pR9, List.mem_append, h, true_or, or_true])))
    · exact (.inr (pnod k8 (by simp only [pR9, List.mem_append, h, true_or, or_true])))
    · exact (.inr (pnod k8 (by simp only [pR9, List.mem_append, h, true_or, or_true])))
    · exact (.inr (pnod k8 (by simp only [pR9, List.mem_append, h, true_or, or_true])))
def pR10 (a b c d e f g h : Bool) : List (Nat × sx_C) := pnn (Nat.add (Nat.add (k3 a b c) (k3 d e f)) (k2' g h)) none ++ (po1 (k3 a b c) none (pnI (Nat.add 1 (bN a))) none (pI (pnI (Nat.add 11 (Nat.add (k3 a b c) (Nat.add (k3 d e f) (bN g)))))) 2 ++ (pbar (Nat.add 10 (Nat.add (k3 a b c) (k3 d e f))) g h none ++ (ptoc 0 a none (pI (pnI (Nat.add 6 (Nat.add (k3 a b c) (bN d))))) ++ (ptoc (Nat.add 5 (k3 a b c)) d none pN ++ (pops (Nat.add 5 (k3 a b c)) 32 33 34 d e f none ++ (pops 0 37 11 12 a b c none ++ (pRest)))))))
theorem pr10_00 : ∀ b c e f g h : Bool, (pokR (pu10 (k3 false b c) (k3 false e f) (k2' g h)) (pR10 false b c false e f g h) && pokI (pil (Nat.add 15 (Nat.add (Nat.add (k3 false b c) (k3 false e f)) (k2' g h))) (pu10 (k3 false b c) (k3 false e f) (k2' g h))) (pu10 (k3 false b c) (k3 false e f) (k2' g h)) (pR10 false b c false e f g h)) = true := by decide +kernel
theorem pr10_01 : ∀ b c e f g h : Bool, (pokR (pu10 (k3 false b c) (k3 true e f) (k2' g h)) (pR10 false b c true e f g h) && pokI (pil (Nat.add 15 (Nat.add (Nat.add (k3 false b c) (k3 true e f)) (k2' g h))) (pu10 (k3 false b c) (k3 true e f) (k2' g h))) (pu10 (k3 false b c) (k3 true e f) (k2' g h)) (pR10 false b c true e f g h)) = true := by decide +kernel
theorem pr10_10 : ∀ b c e f g h : Bool, (pokR (pu10 (k3 true b c) (k3 false e f) (k2' g h)) (pR10 true b c false e f g h) && pokI (pil (Nat.add 15 (Nat.add (Nat.add (k3 true b c) (k3 false e f)) (k2' g h))) (pu10 (k3 true b c) (k3 false e f) (k2' g h))) (pu10 (k3 true b c) (k3 false e f) (k2' g h)) (pR10 true b c false e f g h)) = true := by decide +kernel
theorem pr10_11 : ∀ b c e f g h : Bool, (pokR (pu10 (k3 true b c) (k3 true e f) (k2' g h)) (pR10 true b c true e f g h) && pokI (pil (Nat.add 15 (Nat.add (Nat.add (k3 true b c) (k3 true e f)) (k2' g h))) (pu10 (k3 true b c) (k3 true e f) (k2' g h))) (pu10 (k3 true b c) (k3 true e f) (k2' g h)) (pR10 true b c true e f g h)) = true := by decide +kernel
theorem pr10 : ∀ a b c d e f g h : Bool, (pokR (pu10 (k3 a b c) (k3 d e f) (k2' g h)) (pR10 a b c d e f g h) && pokI (pil (Nat.add 15 (Nat.add (Nat.add (k3 a b c) (k3 d e f)) (k2' g h))) (pu10 (k3 a b c) (k3 d e f) (k2' g h))) (pu10 (k3 a b c) (k3 d e f) (k2' g h)) (pR10 a b c d e f g h)) = true := by
  intro a b c d e f g h
  cases a <;> cases d
  · exact pr10_00 b c e f g h
  · exact pr10_01 b c e f g h
  · exact pr10_10 b c e f g h
  · exact pr10_11 b c e f g h
theorem pw10 (a b c d e f g h : Bool) {z : Nat → Nat} {σ : Nat → Int} (hB : sx_okB σ (pu10 (k3 a b c) (k3 d e f) (k2' g h)).1) (hθ : ∀ p ∈ pθ10 (k3 a b c) (k3 d e f) (k2' g h), sx_ev σ p.2 = σ p.1) : gx_H 60 sm_X7_read 16 600 0 0 z σ ((pu10 (k3 a b c) (k3 d e f) (k2' g h)).2.2.1.1, (pu10 (k3 a b c) (k3 d e f) (k2' g h)).2.2.1.2.1, (pu10 (k3 a b c) (k3 d e f) (k2' g h)).2.2.1.2.2.1, gx_mk (pA9 a b c d e f g h), 400) (sx_σi (pu10 (k3 a b c) (k3 d e f) (k2' g h)).2.2.2.2.2.2.2.1 σ) ((pu10 (k3 a b c) (k3 d e f) (k2' g h)).2.2.2.2.2.2.2.2.1, (pu10 (k3 a b c) (k3 d e f) (k2' g h)).2.2.2.2.2.2.2.2.2.1, (pu10 (k3 a b c) (k3 d e f) (k2' g h)).2.2.2.2.2.2.2.2.2.2.1, gx_mk (pA10 a b c d e f g h), 400) := by
  have h9 : pv10 (k3 a b c) (k3 d e f) (k2' g h) = true := ph10 _ _ _ (k3_lt a b c) (k3_lt d e f) (pk2_lt g h)
  unfold pv10 at h9
  rw [Bool.and_eq_true, Bool.and_eq_true] at h9
  obtain ⟨hok, hck, k9⟩ := h9
  have h8 : (pokR (pu10 (k3 a b c) (k3 d e f) (k2' g h)) (pR10 a b c d e f g h) && pokI (pil (Nat.add 15 (Nat.add (Nat.add (k3 a b c) (k3 d e f)) (k2' g h))) (pu10 (k3 a b c) (k3 d e f) (k2' g h))) (pu10 (k3 a b c) (k3 d e f) (k2' g h)) (pR10 a b c d e f g h)) = true := pr10 a b c d e f g h
  rw [Bool.and_eq_true] at h8
  obtain ⟨hR, hI⟩ := h8
  have n0 := pnA9 a b c d e f g h
  have k8 : sx_nod ((pR10 a b c d e f g h).map Prod.fst) = true := sx_nod_sub (List.Sublist.map Prod.fst (show List.Sublist (pR10 a b c d e f g h) (pA9 a b c d e f g h) from by
    unfold pR10 pA9
    exact List.sublist_append_of_sublist_right (List.sublist_append_of_sublist_right (List.Sublist.append (List.Sublist.refl _) (List.sublist_append_of_sublist_right (List.sublist_append_of_sublist_right (List.Sublist.append (List.Sublist.refl _) (List.Sublist.append (List.Sublist.refl _) (List.Sublist.append (List.Sublist.refl _) (List.Sublist.append (List.Sublist.refl _) (List.Sublist.append (List.Sublist.refl _) (List.Sublist.append (List.Sublist.refl _) (List.Sublist.refl _))))))))))))) n0
  refine (pM (θ0 := pθ10 (k3 a b c) (k3 d e f) (k2' g h)) (l0 := pl10 (k3 a b c) (k3 d e f) (k2' g h)) (l1 := pm10 (k3 a b c) (k3 d e f) (k2' g h)) (A0 := (pA9 a b c d e f g h)) (A1 := (pA10 a b c d e f g h)) (R := pR10 a b c d e f g h) hM_read hok hck hR hI hB hθ (fun i c h => pnod n0 ?_) (fun i c h => pnod n0 ?_) (fun i c h => ?_)).mono (Nat.le_trans (by decide : 60 ≤ 300) (Nat.le_add_right _ _)) (Nat.le_refl _) (Nat.le_refl _) (Nat.le_refl _) (Nat.le_refl _)
  · have h := sx_lk_in h
    simp only [pl10, List.mem_append] at h
    rcases h with h | h | h | h <;> simp only [pA9, List.mem_append, h, true_or, or_true]
  · have h := sx_lk_in h
    simp only [pR10, List.mem_append] at h
    rcases h with h | h | h | h | h | h | h | h <;> simp only [pA9, List.mem_append, h, true_or, or_true]
  · have h := sx_lk_in h
    simp only [pA10, List.mem_append] at h
    rcases h with h | h | h | h | h | h | h | h | h | h | h | h
    · exact (.inl (pnod k9 (by simp only [pm10, List.mem_append, h, true_or, or_true])))
    · exact (.inl (pnod k9 (by simp only [pm10, List.mem_append, h, true_or, or_true])))
    · exact (.inl (pnod k9 (by simp only [pm10, List.mem_append, h, true_or, or_true])))
    · exact (.inl (pnod k9 (by simp only [pm10, List.mem_append, h, true_or, or_true])))
    · exact (.inr (pnod k8 (by simp only [pR10, List.mem_append, h, true_or, or_true])))
    · exact (.inr (pnod k8 (by simp only [pR10, List.mem_append, h, true_or, or_true])))
    · exact (.inr (pnod k8 (by simp only [pR10, List.mem_append, h, true_or, or_true])))
    · exact (.inr (pnod k8 (by simp only [pR10, List.mem_append, h, true_or, or_true])))
    · exact (.inr (pnod k8 (by simp only [pR10, List.mem_append, h, true_or, or_true])))
    · exact (.inr (pnod k8 (by simp only [pR10, List.mem_append, h, true_or, or_true])))
    · exact (.inr (pnod k8 (by simp only [pR10, List.mem_append, h, true_or, or_true])))
    · exact (.inr (pnod k8 (by simp only [pR10, List.mem_append, h, true_or, or_true])))
