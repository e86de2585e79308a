/-! the units of the parse, run -/
theorem pc1_00 : ∀ c : Bool, pv1 false false c = true := by decide +kernel
theorem pc1_01 : ∀ c : Bool, pv1 false true c = true := by decide +kernel
theorem pc1_10 : ∀ c : Bool, pv1 true false c = true := by decide +kernel
theorem pc1_11 : ∀ c : Bool, pv1 true true c = true := by decide +kernel
theorem pc2_00 : ([0, 1, 2, 3, 4, 5] : List Nat).all (fun q => pv2 0 false q) = true := by decide +kernel
theorem pc2_10 : ([0, 1, 2, 3, 4, 5] : List Nat).all (fun q => pv2 1 false q) = true := by decide +kernel
theorem pc2_11 : ([0, 1, 2, 3, 4, 5] : List Nat).all (fun q => pv2 1 true q) = true := by decide +kernel
theorem pc2_20 : ([0, 1, 2, 3, 4, 5] : List Nat).all (fun q => pv2 2 false q) = true := by decide +kernel
theorem pc2_21 : ([0, 1, 2, 3, 4, 5] : List Nat).all (fun q => pv2 2 true q) = true := by decide +kernel
theorem pc2_31 : ([0, 1, 2, 3, 4, 5] : List Nat).all (fun q => pv2 3 true q) = true := by decide +kernel
theorem pc3_0000 : ∀ f : Bool, pv3 0 false false false f = true := by decide +kernel
theorem pc3_0001 : ∀ f : Bool, pv3 0 false false true f = true := by decide +kernel
theorem pc3_0010 : ∀ f : Bool, pv3 0 false true false f = true := by decide +kernel
theorem pc3_0011 : ∀ f : Bool, pv3 0 false true true f = true := by decide +kernel
theorem pc3_0100 : ∀ f : Bool, pv3 0 true false false f = true := by decide +kernel
theorem pc3_0101 : ∀ f : Bool, pv3 0 true false true f = true := by decide +kernel
theorem pc3_0110 : ∀ f : Bool, pv3 0 true true false f = true := by decide +kernel
theorem pc3_0111 : ∀ f : Bool, pv3 0 true true true f = true := by decide +kernel
theorem pc3_1000 : ∀ f : Bool, pv3 1 false false false f = true := by decide +kernel
theorem pc3_1001 : ∀ f : Bool, pv3 1 false false true f = true := by decide +kernel
theorem pc3_1010 : ∀ f : Bool, pv3 1 false true false f = true := by decide +kernel
theorem pc3_1011 : ∀ f : Bool, pv3 1 false true true f = true := by decide +kernel
theorem pc3_1100 : ∀ f : Bool, pv3 1 true false false f = true := by decide +kernel
theorem pc3_1101 : ∀ f : Bool, pv3 1 true false true f = true := by decide +kernel
theorem pc3_1110 : ∀ f : Bool, pv3 1 true true false f = true := by decide +kernel
theorem pc3_1111 : ∀ f : Bool, pv3 1 true true true f = true := by decide +kernel
theorem pc3_2000 : ∀ f : Bool, pv3 2 false false false f = true := by decide +kernel
theorem pc3_2001 : ∀ f : Bool, pv3 2 false false true f = true := by decide +kernel
theorem pc3_2010 : ∀ f : Bool, pv3 2 false true false f = true := by decide +kernel
theorem pc3_2011 : ∀ f : Bool, pv3 2 false true true f = true := by decide +kernel
theorem pc3_2100 : ∀ f : Bool, pv3 2 true false false f = true := by decide +kernel
theorem pc3_2101 : ∀ f : Bool, pv3 2 true false true f = true := by decide +kernel
theorem pc3_2110 : ∀ f : Bool, pv3 2 true true false f = true := by decide +kernel
theorem pc3_2111 : ∀ f : Bool, pv3 2 true true true f = true := by decide +kernel
theorem pc3_3000 : ∀ f : Bool, pv3 3 false false false f = true := by decide +kernel
theorem pc3_3001 : ∀ f : Bool, pv3 3 false false true f = true := by decide +kernel
theorem pc3_3010 : ∀ f : Bool, pv3 3 false true false f = true := by decide +kernel
theorem pc3_3011 : ∀ f : Bool, pv3 3 false true true f = true := by decide +kernel
