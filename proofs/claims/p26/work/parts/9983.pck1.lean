/-! the units of the parse, run -/
theorem pc3_3100 : ∀ f : Bool, pv3 3 true false false f = true := by decide +kernel
theorem pc3_3101 : ∀ f : Bool, pv3 3 true false true f = true := by decide +kernel
theorem pc3_3110 : ∀ f : Bool, pv3 3 true true false f = true := by decide +kernel
theorem pc3_3111 : ∀ f : Bool, pv3 3 true true true f = true := by decide +kernel
theorem pc4_0000 : ∀ u : Bool, pv4 0 false u 0 false = true := by decide +kernel
theorem pc4_0010 : ∀ u : Bool, pv4 0 false u 1 false = true := by decide +kernel
theorem pc4_0011 : ∀ u : Bool, pv4 0 false u 1 true = true := by decide +kernel
theorem pc4_0020 : ∀ u : Bool, pv4 0 false u 2 false = true := by decide +kernel
theorem pc4_0021 : ∀ u : Bool, pv4 0 false u 2 true = true := by decide +kernel
theorem pc4_0031 : ∀ u : Bool, pv4 0 false u 3 true = true := by decide +kernel
theorem pc4_1000 : ∀ u : Bool, pv4 1 false u 0 false = true := by decide +kernel
theorem pc4_1010 : ∀ u : Bool, pv4 1 false u 1 false = true := by decide +kernel
theorem pc4_1011 : ∀ u : Bool, pv4 1 false u 1 true = true := by decide +kernel
theorem pc4_1020 : ∀ u : Bool, pv4 1 false u 2 false = true := by decide +kernel
theorem pc4_1021 : ∀ u : Bool, pv4 1 false u 2 true = true := by decide +kernel
theorem pc4_1031 : ∀ u : Bool, pv4 1 false u 3 true = true := by decide +kernel
theorem pc4_1100 : ∀ u : Bool, pv4 1 true u 0 false = true := by decide +kernel
theorem pc4_1110 : ∀ u : Bool, pv4 1 true u 1 false = true := by decide +kernel
theorem pc4_1111 : ∀ u : Bool, pv4 1 true u 1 true = true := by decide +kernel
theorem pc4_1120 : ∀ u : Bool, pv4 1 true u 2 false = true := by decide +kernel
theorem pc4_1121 : ∀ u : Bool, pv4 1 true u 2 true = true := by decide +kernel
theorem pc4_1131 : ∀ u : Bool, pv4 1 true u 3 true = true := by decide +kernel
theorem pc4_2000 : ∀ u : Bool, pv4 2 false u 0 false = true := by decide +kernel
theorem pc4_2010 : ∀ u : Bool, pv4 2 false u 1 false = true := by decide +kernel
theorem pc4_2011 : ∀ u : Bool, pv4 2 false u 1 true = true := by decide +kernel
theorem pc4_2020 : ∀ u : Bool, pv4 2 false u 2 false = true := by decide +kernel
theorem pc4_2021 : ∀ u : Bool, pv4 2 false u 2 true = true := by decide +kernel
theorem pc4_2031 : ∀ u : Bool, pv4 2 false u 3 true = true := by decide +kernel
theorem pc4_2100 : ∀ u : Bool, pv4 2 true u 0 false = true := by decide +kernel
theorem pc4_2110 : ∀ u : Bool, pv4 2 true u 1 false = true := by decide +kernel
theorem pc4_2111 : ∀ u : Bool, pv4 2 true u 1 true = true := by decide +kernel
theorem pc4_2120 : ∀ u : Bool, pv4 2 true u 2 false = true := by decide +kernel
theorem pc4_2121 : ∀ u : Bool, pv4 2 true u 2 true = true := by decide +kernel
theorem pc4_2131 : ∀ u : Bool, pv4 2 true u 3 true = true := by decide +kernel
theorem pc4_3100 : ∀ u : Bool, pv4 3 true u 0 false = true := by decide +kernel
theorem pc4_3110 : ∀ u : Bool, pv4 3 true u 1 false = true := by decide +kernel
theorem pc4_3111 : ∀ u : Bool, pv4 3 true u 1 true = true := by decide +kernel
theorem pc4_3120 : ∀ u : Bool, pv4 3 true u 2 false = true := by decide +kernel
theorem pc4_3121 : ∀ u : Bool, pv4 3 true u 2 true = true := by decide +kernel
theorem pc4_3131 : ∀ u : Bool, pv4 3 true u 3 true = true := by decide +kernel
theorem pc5_00 : ∀ u : Bool, ([0, 1, 2, 3, 4, 5] : List Nat).all (fun q => pv5 0 0 u q) = true := by decide +kernel
theorem pc5_01 : ∀ u : Bool, ([0, 1, 2, 3, 4, 5] : List Nat).all (fun q => pv5 0 1 u q) = true := by decide +kernel
theorem pc5_02 : ∀ u : Bool, ([0, 1, 2, 3, 4, 5] : List Nat).all (fun q => pv5 0 2 u q) = true := by decide +kernel
theorem pc5_03 : ∀ u : Bool, ([0, 1, 2, 3, 4, 5] : List Nat).all (fun q => pv5 0 3 u q) = true := by decide +kernel
theorem pc5_10 : ∀ u : Bool, ([0, 1, 2, 3, 4, 5] : List Nat).all (fun q => pv5 1 0 u q) = true := by decide +kernel
theorem pc5_11 : ∀ u : Bool, ([0, 1, 2, 3, 4, 5] : List Nat).all (fun q => pv5 1 1 u q) = true := by decide +kernel
theorem pc5_12 : ∀ u : Bool, ([0, 1, 2, 3, 4, 5] : List Nat).all (fun q => pv5 1 2 u q) = true := by decide +kernel
theorem pc5_13 : ∀ u : Bool, ([0, 1, 2, 3, 4, 5] : List Nat).all (fun q => pv5 1 3 u q) = true := by decide +kernel
theorem pc5_20 : ∀ u : Bool, ([0, 1, 2, 3, 4, 5] : List Nat).all (fun q => pv5 2 0 u q) = true := by decide +kernel
theorem pc5_21 : ∀ u : Bool, ([0, 1, 2, 3, 4, 5] : List Nat).all (fun q => pv5 2 1 u q) = true := by decide +kernel
theorem pc5_22 : ∀ u : Bool, ([0, 1, 2, 3, 4, 5] : List Nat).all (fun q => pv5 2 2 u q) = true := by decide +kernel
theorem pc5_23 : ∀ u : Bool, ([0, 1, 2, 3, 4, 5] : List Nat).all (fun q => pv5 2 3 u q) = true := by decide +kernel
theorem pc5_30 : ∀ u : Bool, ([0, 1, 2, 3, 4, 5] : List Nat).all (fun q => pv5 3 0 u q) = true := by decide +kernel
theorem pc5_31 : ∀ u : Bool, ([0, 1, 2, 3, 4, 5] : List Nat).all (fun q => pv5 3 1 u q) = true := by decide +kernel
theorem pc5_32 : ∀ u : Bool, ([0, 1, 2, 3, 4, 5] : List Nat).all (fun q => pv5 3 2 u q) = true := by decide +kernel
theorem pc5_33 : ∀ u : Bool, ([0, 1, 2, 3, 4, 5] : List Nat).all (fun q => pv5 3 3 u q) = true := by decide +kernel
theorem pc6_000 : ∀ h : Bool, pv6 0 0 false h = true := by decide +kernel
theorem pc6_001 : ∀ h : Bool, pv6 0 0 true h = true := by decide +kernel
theorem pc6_010 : ∀ h : Bool, pv6 0 1 false h = true := by decide +kernel
theorem pc6_011 : ∀ h : Bool, pv6 0 1 true h = true := by decide +kernel
theorem pc6_020 : ∀ h : Bool, pv6 0 2 false h = true := by decide +kernel
theorem pc6_021 : ∀ h : Bool, pv6 0 2 true h = true := by decide +kernel
theorem pc6_100 : ∀ h : Bool, pv6 1 0 false h = true := by decide +kernel
theorem pc6_101 : ∀ h : Bool, pv6 1 0 true h = true := by decide +kernel
theorem pc6_110 : ∀ h : Bool, pv6 1 1 false h = true := by decide +kernel
theorem pc6_111 : ∀ h : Bool, pv6 1 1 true h = true := by decide +kernel
theorem pc6_120 : ∀ h : Bool, pv6 1 2 false h = true := by decide +kernel
theorem pc6_121 : ∀ h : Bool, pv6 1 2 true h = true := by decide +kernel
theorem pc6_200 : ∀ h : Bool, pv6 2 0 false h = true := by decide +kernel
theorem pc6_201 : ∀ h : Bool, pv6 2 0 true h = true := by decide +kernel
theorem pc6_210 : ∀ h : Bool, pv6 2 1 false h = true := by decide +kernel
theorem pc6_211 : ∀ h : Bool, pv6 2 1 true h = true := by decide +kernel
theorem pc6_220 : ∀ h : Bool, pv6 2 2 false h = true := by decide +kernel
theorem pc6_221 : ∀ h : Bool, pv6 2 2 true h = true := by decide +kernel
theorem pc6_300 : ∀ h : Bool, pv6 3 0 false h = true := by decide +kernel
theorem pc6_301 : ∀ h : Bool, pv6 3 0 true h = true := by decide +kernel
theorem pc6_310 : ∀ h : Bool, pv6 3 1 false h = true := by decide +kernel
theorem pc6_311 : ∀ h : Bool, pv6 3 1 true h = true := by decide +kernel
theorem pc6_320 : ∀ h : Bool, pv6 3 2 false h = true := by decide +kernel
theorem pc6_321 : ∀ h : Bool, pv6 3 2 true h = true := by decide +kernel
theorem pc6_400 : ∀ h : Bool, pv6 4 0 false h = true := by decide +kernel
theorem pc6_401 : ∀ h : Bool, pv6 4 0 true h = true := by decide +kernel
theorem pc6_410 : ∀ h : Bool, pv6 4 1 false h = true := by decide +kernel
theorem pc6_411 : ∀ h : Bool, pv6 4 1 true h = true := by decide +kernel
theorem pc6_420 : ∀ h : Bool, pv6 4 2 false h = true := by decide +kernel
